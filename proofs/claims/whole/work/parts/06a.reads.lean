/-! both sides read alike -/
theorem rng (x : Int32) {lo hi : Nat} (hl : lo ≤ hi) (h : hi < 2 ^ 31) : (∃ k, lo ≤ k ∧ k ≤ hi ∧ x = nI k) ∨ (x < nI lo ∨ nI hi < x) := by
  by_cases q1 : x < nI lo
  · exact Or.inr (Or.inl q1)
  · by_cases q2 : nI hi < x
    · exact Or.inr (Or.inr q2)
    · left
      have h0 : ¬ x < 0 := by
        intro q
        apply q1
        rw [Int32.lt_iff_toInt_lt] at q ⊢
        rw [nI_toInt (by omega)]
        have : (0 : Int32).toInt = 0 := by decide
        omega
      obtain ⟨j, hj, rfl⟩ := nI_of h0
      refine ⟨j, ?_, ?_, rfl⟩
      · rcases Nat.lt_or_ge j lo with w | w
        · exact absurd (nI_lt w (by omega)) q1
        · exact w
      · rcases Nat.lt_or_ge hi j with w | w
        · exact absurd (nI_lt w hj) q2
        · exact w
theorem rng_no {lo hi k : Nat} (h1 : lo ≤ k) (h2 : k ≤ hi) (h : hi < 2 ^ 31) : ¬ nI k < nI lo ∧ ¬ nI hi < nI k := ⟨nI_nlt h1 (by omega), nI_nlt h2 (by omega)⟩
theorem in_yes {lo hi k : Nat} (h1 : lo ≤ k) (h2 : k ≤ hi) (h : hi < 2 ^ 31) : MX6_in (nI k) (nI lo) (nI hi) = some 1 := by
  unfold MX6_in
  rw [if_neg (rng_no h1 h2 h).1, if_neg (rng_no h1 h2 h).2]
theorem in_no {x : Int32} {lo hi : Nat} (h : x < nI lo ∨ nI hi < x) : MX6_in x (nI lo) (nI hi) = some 0 := by
  unfold MX6_in
  rcases h with h | h
  · rw [if_pos h]
  · by_cases q : x < nI lo
    · rw [if_pos q]
    · rw [if_neg q, if_pos h]
theorem alike_ite {α : Type} {c : Prop} [Decidable c] {p1 p2 q1 q2 : Option α} (h1 : c → ∃ v, p1 = some v ∧ q1 = some v) (h2 : ¬ c → ∃ v, p2 = some v ∧ q2 = some v) : ∃ v, (if c then p1 else p2) = some v ∧ (if c then q1 else q2) = some v := by
  by_cases q : c
  · rw [if_pos q, if_pos q]; exact h1 q
  · rw [if_neg q, if_neg q]; exact h2 q
/-- two sides of one state -/
def Two (a : Abs) (f s : Nat → Int32) : Prop := RepC a f ∧ RepN a s ∧ RepW a s ∧ aInv a ∧ aWz a
section TWO
variable {a : Abs} {f s : Nat → Int32}
theorem two_row (h : Two a f s) (x : Int32) : (∃ r, r < aG a 0 ∧ x = nI r ∧ MX3_hasRow f x = some 1 ∧ MX6_isRow s x = some 1) ∨ (MX3_hasRow f x = some 0 ∧ MX6_isRow s x = some 0) := by
  obtain ⟨h1, h2, h3, h4, h5⟩ := h
  have hn := h4.1
  unfold MX6_isRow
  rw [M_n h2, Option.bind_some, nI_m1 (by omega), show (0 : Int32) = nI 0 from rfl]
  rcases C_hasRow h1 h4 x with ⟨e1, e2⟩ | ⟨r, e1, rfl, e3⟩
  · right
    refine ⟨e1, ?_⟩
    rcases rng x (lo := 0) (hi := aG a 0 - 1) (by omega) (by omega) with ⟨k, k1, k2, k3⟩ | q
    · exact absurd ⟨k, by omega, k3⟩ e2
    · rw [in_no q]
      rfl
  · left
    refine ⟨r, e1, rfl, e3, ?_⟩
    rw [in_yes (Nat.zero_le _) (by omega) (by omega)]
    rfl
theorem two_cell (x : Int32) : (∃ c, c < 8 ∧ x = nI c ∧ MX3_isCell x = some 1 ∧ MX6_isCell x = some 1) ∨ (MX3_isCell x = some 0 ∧ MX6_isCell x = some 0) := by
  unfold MX6_isCell
  rcases C_isCell x with ⟨e1, e2⟩ | ⟨c, e1, rfl, e3⟩
  · right
    refine ⟨e1, ?_⟩
    rcases rng x (lo := 0) (hi := 7) (by omega) (by omega) with ⟨k, k1, k2, k3⟩ | q
    · exact absurd ⟨k, by omega, k3⟩ e2
    · have := in_no q
      rw [show (0 : Int32) = nI 0 from rfl, show (7 : Int32) = nI 7 from rfl, this]
      rfl
  · left
    refine ⟨c, e1, rfl, e3, ?_⟩
    have := in_yes (lo := 0) (hi := 7) (k := c) (Nat.zero_le _) (by omega) (by omega)
    rw [show (0 : Int32) = nI 0 from rfl, show (7 : Int32) = nI 7 from rfl, this]
    rfl
theorem C_val2m (h : RepC a f) (hi : aInv a) {r c : Nat} (hr : r < aG a 0) (hc : c < 8) : MX3_get f (136 + ((nI r * 8) + nI c)) = some (aW a r c) := by
  have := hi.1.2
  rw [show (136 : Int32) = nI 136 from rfl, ix_8, ix_a, ← Nat.add_assoc, getN f (by omega), (h.2.2.2.1 r c hr hc).2]
theorem some_nn (e : Ech) : ¬ (some e = none) := nofun
theorem one_n0 : ¬ (1 : Int32) = 0 := by decide
theorem hv_some {r c : Nat} {e : Ech} (h : aHeard a r c = some e) : aHv a r c = e.2.1 + 1 := by unfold aHv; rw [h]
theorem hv_none {r c : Nat} (h : aHeard a r c = none) : aHv a r c = 0 := by unfold aHv; rw [h]
theorem m1_nf : ¬ ((0 : Int32) = -1) := by decide
theorem sim_cell (h : Two a f s) (x0 x1 x2 : Int32) : ∃ v, MX4_ofCell f x0 x1 x2 = some v ∧ MX6_cell s x0 x1 x2 = some v := by
  unfold MX4_ofCell MX6_cell
  rcases two_row h x0 with ⟨r, hr, rfl, e1, e2⟩ | ⟨e1, e2⟩
  · rcases two_cell x1 with ⟨c, hc, rfl, e3, e4⟩ | ⟨e3, e4⟩
    · obtain ⟨h1, h2, h3, h4, h5⟩ := h
      have hn := h4.1
      have hV := inv_V h4 hr hc
      rw [e1, Option.bind_some, if_neg (by decide), e2, Option.bind_some, if_neg (by decide), e3, Option.bind_some, if_neg (by decide), e4, Option.bind_some, if_neg (by decide), M_cell h3 hn.2 hr hc, Option.bind_some, M_heard h2 h4 hr hc, Option.bind_some, Option.bind_some, M_heardAge h2 h4 hr hc, Option.bind_some, M_wrg h3 hn.2 hr hc, Option.bind_some, C_lives h1 h4 hr, Option.bind_some, C_val2 h1 h4 hr hc, Option.bind_some, C_fresh h1 h4 hr hc, C_val2m h1 h4 hr hc]
      -- the value that the class sees
      have hval : (if (if aF a 1 r = 1 then (1 : Int32) else 0) = 0 then some (-1) else some (nI (aV a r c) - 1)) = some (if aF a 1 r = 1 then nI (aV a r c) - 1 else -1) := by
        by_cases q : aF a 1 r = 1
        · rw [if_pos q, if_pos q]; rfl
        · rw [if_neg q, if_neg q]; rfl
      rw [hval, Option.bind_some, Option.bind_some]
      have htold : (if frE (aHeard a r c) = -1 then some (0 : Int32) else some 1) = some (if aHeard a r c = none then 0 else 1) := by
        cases q : aHeard a r c with
        | none => rfl
        | some e =>
          rw [if_neg (show ¬ frE (some e) = -1 from m1_ne_pk (heard_ok h4 q).1), if_neg (some_nn e)]
      rw [htold, Option.bind_some, Option.bind_some]
      by_cases z0 : x2 = 0
      · rw [if_pos z0, if_pos z0]
        by_cases q : aF a 1 r = 1
        · rw [if_pos q, if_pos q]
          by_cases w : aV a r c = 0
          · rw [w, m1_of0, if_pos rfl, if_pos (by decide)]
            exact ⟨_, rfl, rfl⟩
          · rw [nI_m1 (by omega), if_neg (m1_ne _ (by omega)), if_neg (nI_ne0 (by omega) (by omega))]
            exact ⟨_, rfl, rfl⟩
        · rw [if_neg q, if_neg q, if_pos rfl, if_pos rfl]
          exact ⟨_, rfl, rfl⟩
      rw [if_neg z0, if_neg z0]
      by_cases z1 : x2 = 1
      · rw [if_pos z1, if_pos z1]
        exact ⟨_, rfl, rfl⟩
      rw [if_neg z1, if_neg z1]
      by_cases z2 : x2 = 2
      · rw [if_pos z2, if_pos z2]
        cases q : aHeard a r c with
        | none =>
          rw [hv_none q]
          rw [if_pos rfl, if_pos rfl, if_pos (by decide)]
          exact ⟨_, rfl, rfl⟩
        | some e =>
          have ho := (heard_ok h4 q).1
          have := ho.2.1
          rw [hv_some q]
          rw [if_neg (some_nn e), if_neg one_n0, if_neg (nI_ne0 (by omega) (by omega)), show frE (some e) = pkE e from rfl, val_pk ho, Option.bind_some]
          exact ⟨_, rfl, by rw [nI_m1 (by omega)]; rfl⟩
      rw [if_neg z2, if_neg z2]
      by_cases z3 : x2 = 3
      · rw [if_pos z3, if_pos z3]
        cases q : aHeard a r c with
        | none =>
          rw [if_pos rfl, if_pos rfl]
          exact ⟨_, rfl, rfl⟩
        | some e =>
          have ho := (heard_ok h4 q)
          rw [if_neg (some_nn e), if_neg one_n0, show frE (some e) = pkE e from rfl, C_age h1 ho.1 ho.2.1, Option.bind_some]
          exact ⟨_, rfl, rfl⟩
      rw [if_neg z3, if_neg z3]
      by_cases z4 : x2 = 4
      · rw [if_pos z4, if_pos z4]
        cases q : aHeard a r c with
        | none =>
          rw [hv_none q]
          rw [if_pos rfl, if_pos rfl]
          by_cases w : aF a 1 r = 1
          · rw [if_pos w]
            by_cases w2 : aV a r c = 0
            · rw [w2, if_pos (by decide)]
              exact ⟨_, rfl, rfl⟩
            · rw [if_neg (nI_nle (by omega) (by omega)), Option.bind_some, if_neg (fun v => w2 ((nI_eq (a := 0) (by omega) (by omega)).mp v).symm)]
              exact ⟨_, rfl, rfl⟩
          · rw [if_neg w, if_pos (by decide)]
            exact ⟨_, rfl, rfl⟩
        | some e =>
          have ho := (heard_ok h4 q).1
          have := ho.2.1
          rw [hv_some q]
          rw [if_neg (some_nn e), if_neg one_n0, show frE (some e) = pkE e from rfl, val_pk ho, Option.bind_some]
          by_cases w : aF a 1 r = 1
          · rw [if_pos w, if_pos w]
            by_cases w2 : aV a r c = 0
            · rw [w2, m1_of0, if_neg (m1_ne _ (by omega)), if_pos (by decide)]
              exact ⟨_, rfl, rfl⟩
            · rw [if_neg (nI_nle (by omega) (by omega)), Option.bind_some]
              by_cases w3 : e.2.1 + 1 = aV a r c
              · rw [if_pos ((V_eq ho.2.1 hV).mpr w3), if_pos (show nI (e.2.1 + 1) = nI (aV a r c) by rw [w3])]
                exact ⟨_, rfl, rfl⟩
              · rw [if_neg (fun v => w3 ((V_eq ho.2.1 hV).mp v)), if_neg (show ¬ nI (e.2.1 + 1) = nI (aV a r c) from fun v => w3 ((nI_eq (by omega) (by omega)).mp v))]
                exact ⟨_, rfl, rfl⟩
          · rw [if_neg w, if_neg w, if_neg (m1_ne _ (by omega)), if_pos (by decide)]
            exact ⟨_, rfl, rfl⟩
      rw [if_neg z4, if_neg z4]
      exact ⟨_, rfl, rfl⟩
    · rw [e1, Option.bind_some, if_neg (by decide), e2, Option.bind_some, if_neg (by decide), e3, Option.bind_some, if_pos rfl, e4, Option.bind_some, if_pos rfl]
      exact ⟨_, rfl, rfl⟩
  · rw [e1, Option.bind_some, if_pos rfl, e2, Option.bind_some, if_pos rfl]
    exact ⟨_, rfl, rfl⟩
theorem div8 {n : Nat} (h : n < 2 ^ 31) : nI n / 8 = nI (n / 8) := by rw [show (8 : Int32) = nI 8 from rfl, pk_div h (by decide) (by decide)]
theorem sim_margin (h : Two a f s) (x0 x1 x2 : Int32) : ∃ v, MX4_ofMargin f x0 x1 x2 = some v ∧ MX6_margin s x0 x1 x2 = some v := by
  unfold MX4_ofMargin MX6_margin
  rcases two_row h x0 with ⟨r, hr, rfl, e1, e2⟩ | ⟨e1, e2⟩
  · obtain ⟨h1, h2, h3, h4, h5⟩ := h
    have hn := h4.1
    have hl := inv_len h4 hr
    rw [e1, Option.bind_some, if_neg one_n0, e2, Option.bind_some, if_neg one_n0, M_ec h2 h4 hr, Option.bind_some, C_ec h1 h4 hr, Option.bind_some]
    by_cases q1 : x1 < 0
    · rw [if_pos q1, if_pos q1]
      exact ⟨_, rfl, rfl⟩
    rw [if_neg q1, if_neg q1, show (0 : Int32) = nI 0 from rfl, show (4 : Int32) = nI 4 from rfl]
    rcases rng x2 (lo := 0) (hi := 4) (by omega) (by omega) with ⟨w, w1, w2, rfl⟩ | q2
    · rw [in_yes w1 w2 (by omega), Option.bind_some, if_neg (show ¬ (1 : Int32) = nI 0 by decide), if_neg (rng_no w1 w2 (by omega)).1, if_pos (nI_le w2 (by omega))]
      obtain ⟨j, hj, rfl⟩ := nI_of q1
      rcases Nat.lt_or_ge j (aM a r).length with z | z
      · obtain ⟨e, he⟩ : ∃ e, (aM a r)[j]? = some e := ⟨_, List.getElem?_eq_getElem z⟩
        have ho := inv_ok h4 hr (List.mem_of_getElem? he)
        have hE : MX4_echoIn f (nI r) (nI j) = some (pkE e) := by
          unfold MX4_echoIn
          rw [C_mg h1 h4 hr he]
          rfl
        have hm0 : MX6_echo s (nI r) (nI j) (nI 0) = some (nI e.1) := (M_echo h2 h4 hr he).1
        have hm1 := (M_echo h2 h4 hr he).2.1
        have := ho.1.1
        rw [if_pos (nI_lt z (by omega)), if_pos (nI_lt z (by omega)), hE, Option.bind_some, own_pk ho.1, Option.bind_some, Option.bind_some, val_pk ho.1, C_age h1 ho.1 ho.2, C_faded h1 h4 ho.1 ho.2, hm0, Option.bind_some, hm1, M_age h2 h4 hr he, M_faded h2 h4 hr he]
        rw [Option.bind_some, Option.bind_some, Option.bind_some]
        repeat' (first | exact ⟨_, rfl, rfl⟩ | refine alike_ite (fun _ => ?_) (fun _ => ?_))
      · rw [if_neg (nI_nlt z (by omega)), if_neg (nI_nlt z (by omega))]
        exact ⟨_, rfl, rfl⟩
    · rw [in_no q2, Option.bind_some, if_pos (show (0 : Int32) = nI 0 from rfl)]
      rcases q2 with q2 | q2
      · rw [if_pos q2]
        exact ⟨_, rfl, rfl⟩
      · by_cases q3 : x2 < nI 0
        · rw [if_pos q3]
          exact ⟨_, rfl, rfl⟩
        · rw [if_neg q3, if_neg (by
            intro w
            rw [Int32.le_iff_toInt_le] at w
            rw [Int32.lt_iff_toInt_lt] at q2
            omega)]
          exact ⟨_, rfl, rfl⟩
  · rw [e1, Option.bind_some, if_pos rfl, e2, Option.bind_some, if_pos rfl]
    exact ⟨_, rfl, rfl⟩
theorem sim_at (h : Two a f s) (x0 : Int32) : ∃ v, MX5_at f x0 = some v ∧ MX6_at s x0 = some v := by
  unfold MX5_at MX6_at
  have hh := two_row h x0
  unfold MX6_isRow at hh
  obtain ⟨h1, h2, h3, h4, h5⟩ := h
  have hn := h4.1
  rw [M_n h2, Option.bind_some] at hh ⊢
  rcases hh with ⟨r, hr, rfl, e1, e2⟩ | ⟨e1, e2⟩
  · obtain ⟨v, e3, e4⟩ := bnd e2
    rw [e1, Option.bind_some, if_neg one_n0, C_at h1 h4 hr, Option.bind_some, e3, Option.bind_some, Option.some.inj e4, if_neg one_n0, M_rowAt h2 h4 hr]
    exact ⟨_, rfl, rfl⟩
  · obtain ⟨v, e3, e4⟩ := bnd e2
    rw [e1, Option.bind_some, if_pos rfl, e3, Option.bind_some, Option.some.inj e4, if_pos rfl]
    exact ⟨_, rfl, rfl⟩
end TWO
