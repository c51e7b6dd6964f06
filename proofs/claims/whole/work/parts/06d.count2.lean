/-! count, safeFor, and what mean and share divide -/
section CNT2
variable {a : Abs} {f s : Nat → Int32}
theorem C_cnt (h : RepC a f) {i : Nat} (h1 : 4 ≤ i) (h2 : i < 10) : MX3_get f (nI i) = some (aC a i) := by rw [getN f (by omega), h.2.1 i h1 h2]
theorem M_cnt (h : RepN a s) {i : Nat} (h1 : 4 ≤ i) (h2 : i < 10) : ldA 703 s (nI i) = some (aC a i) := by rw [ldM s (by omega), h.2.1 i h1 h2]
theorem sm_lens (hi : aInv a) : aEchoes a ≤ 144 := by
  have := hi.1.2
  have h2 := sm_ub (f := fun r => (aM a r).length) (b := 16) (aG a 0) (fun k hk => inv_len hi hk)
  have : 16 * aG a 0 ≤ 16 * 9 := Nat.mul_le_mul_left _ this
  unfold aEchoes
  omega
theorem sim_ofAll (h : Two a f s) (x0 kn le : Int32) (e14 : ¬ x0 = 14) (e15 : ¬ x0 = 15) : ∃ v, MX4_ofAll f x0 = some v ∧ MX6_count kn le s x0 = some v := by
  obtain ⟨h1, h2, h3, h4, h5⟩ := h
  unfold MX4_ofAll MX6_count
  have hE := fr_all a
  have hE2 := sm_lens h4
  by_cases q0 : x0 = 0
  · subst q0
    rw [show MX6_in 0 8 13 = some 0 from rfl, if_pos rfl, Option.bind_some, if_pos rfl, if_pos rfl, C_n h1, M_n h2]
    exact ⟨_, rfl, rfl⟩
  by_cases q1 : x0 = 1
  · subst q1
    rw [show MX6_in 1 8 13 = some 0 from rfl, Option.bind_some, if_pos (show (0 : Int32) = 0 from rfl), if_neg q0, if_pos rfl, if_neg q0, if_pos rfl, C_day h1, M_day h2]
    exact ⟨_, rfl, rfl⟩
  by_cases q2 : x0 = 2
  · subst q2
    rw [show MX6_in 2 8 13 = some 0 from rfl, Option.bind_some, if_pos (show (0 : Int32) = 0 from rfl), if_neg q0, if_neg q1, if_pos rfl, if_neg q0, if_neg q1, if_pos rfl, C_living h1 h4, if_neg (show ¬ (2 : Int32) = 3 by decide), Option.bind_some, Option.bind_some, (M_setOf h2 h3 h4).2]
    exact ⟨_, rfl, rfl⟩
  by_cases q3 : x0 = 3
  · subst q3
    rw [show MX6_in 3 8 13 = some 0 from rfl, Option.bind_some, if_pos (show (0 : Int32) = 0 from rfl), if_neg q0, if_neg q1, if_neg q2, if_pos rfl, if_neg q0, if_neg q1, if_neg q2, if_pos rfl, C_safe h1 h4, if_pos (show (3 : Int32) = 3 from rfl), Option.bind_some, Option.bind_some, (M_setOf h2 h3 h4).1]
    exact ⟨_, rfl, rfl⟩
  by_cases q4 : x0 = 4
  · subst q4
    rw [show MX6_in 4 8 13 = some 0 from rfl, Option.bind_some, if_pos (show (0 : Int32) = 0 from rfl), if_neg q0, if_neg q1, if_neg q2, if_neg q3, if_pos rfl, if_neg q0, if_neg q1, if_neg q2, if_neg q3, if_pos rfl, C_echoes h1 h4, M_echoes h2 h4]
    exact ⟨_, rfl, rfl⟩
  by_cases q5 : x0 = 5
  · subst q5
    rw [show MX6_in 5 8 13 = some 0 from rfl, Option.bind_some, if_pos (show (0 : Int32) = 0 from rfl), if_neg q0, if_neg q1, if_neg q2, if_neg q3, if_neg q4, if_pos rfl, if_neg q0, if_neg q1, if_neg q2, if_neg q3, if_neg q4, if_pos rfl, C_echoes h1 h4, Option.bind_some, C_freshes h1 h4, Option.bind_some, M_fades h2 h4, pk_sub (by omega), show aEchoes a - tFr a = tOl a by omega]
    exact ⟨_, rfl, rfl⟩
  by_cases q6 : x0 = 6
  · subst q6
    rw [show MX6_in 6 8 13 = some 0 from rfl, Option.bind_some, if_pos (show (0 : Int32) = 0 from rfl), if_neg q0, if_neg q1, if_neg q2, if_neg q3, if_neg q4, if_neg q5, if_pos rfl, if_neg q0, if_neg q1, if_neg q2, if_neg q3, if_neg q4, if_neg q5, if_pos rfl, C_allUnk h1 h4, if_neg (show ¬ (6 : Int32) = 7 by decide), Option.bind_some, Option.bind_some, (M_cells h2 h3 h4).1]
    exact ⟨_, rfl, rfl⟩
  by_cases q7 : x0 = 7
  · subst q7
    rw [show MX6_in 7 8 13 = some 0 from rfl, Option.bind_some, if_pos (show (0 : Int32) = 0 from rfl), if_neg q0, if_neg q1, if_neg q2, if_neg q3, if_neg q4, if_neg q5, if_neg q6, if_pos rfl, if_neg q0, if_neg q1, if_neg q2, if_neg q3, if_neg q4, if_neg q5, if_neg q6, if_pos rfl, C_allWr h1 h4 h5, if_pos (show (7 : Int32) = 7 from rfl), Option.bind_some, Option.bind_some, (M_cells h2 h3 h4).2]
    exact ⟨_, rfl, rfl⟩
  rw [if_neg q0, if_neg q1, if_neg q2, if_neg q3, if_neg q4, if_neg q5, if_neg q6, if_neg q7, if_neg q0, if_neg q1, if_neg q2, if_neg q3, if_neg q4, if_neg q5, if_neg q6, if_neg q7]
  have cn : ∀ i : Nat, 4 ≤ i → i < 10 → MX3_get f (nI i) = some (aC a i) := fun i u v => C_cnt h1 u v
  have mn : ∀ i : Nat, 4 ≤ i → i < 10 → ldA 703 s (nI i) = some (aC a i) := fun i u v => M_cnt h2 u v
  by_cases q8 : x0 = 8
  · subst q8
    rw [show MX6_in 8 8 13 = some 1 from rfl, Option.bind_some, if_neg one_n0, if_pos rfl, show (4 : Int32) = nI 4 from rfl, show (nI 4 + 8) - 8 = nI 4 from rfl, cn 4 (by omega) (by omega), mn 4 (by omega) (by omega)]
    exact ⟨_, rfl, rfl⟩
  by_cases q9 : x0 = 9
  · subst q9
    rw [show MX6_in 9 8 13 = some 1 from rfl, Option.bind_some, if_neg one_n0, if_neg q8, if_pos rfl, show (5 : Int32) = nI 5 from rfl, show ((4 : Int32) + 9) - 8 = nI 5 from rfl, cn 5 (by omega) (by omega), mn 5 (by omega) (by omega)]
    exact ⟨_, rfl, rfl⟩
  by_cases q10 : x0 = 10
  · subst q10
    rw [show MX6_in 10 8 13 = some 1 from rfl, Option.bind_some, if_neg one_n0, if_neg q8, if_neg q9, if_pos rfl, show (6 : Int32) = nI 6 from rfl, show ((4 : Int32) + 10) - 8 = nI 6 from rfl, cn 6 (by omega) (by omega), mn 6 (by omega) (by omega)]
    exact ⟨_, rfl, rfl⟩
  by_cases q11 : x0 = 11
  · subst q11
    rw [show MX6_in 11 8 13 = some 1 from rfl, Option.bind_some, if_neg one_n0, if_neg q8, if_neg q9, if_neg q10, if_pos rfl, show (7 : Int32) = nI 7 from rfl, show ((4 : Int32) + 11) - 8 = nI 7 from rfl, cn 7 (by omega) (by omega), mn 7 (by omega) (by omega)]
    exact ⟨_, rfl, rfl⟩
  by_cases q12 : x0 = 12
  · subst q12
    rw [show MX6_in 12 8 13 = some 1 from rfl, Option.bind_some, if_neg one_n0, if_neg q8, if_neg q9, if_neg q10, if_neg q11, if_pos rfl, show ((4 : Int32) + 12) - 8 = nI 8 from rfl, show (8 : Int32) = nI 8 from rfl, cn 8 (by omega) (by omega), mn 8 (by omega) (by omega)]
    exact ⟨_, rfl, rfl⟩
  by_cases q13 : x0 = 13
  · subst q13
    rw [show MX6_in 13 8 13 = some 1 from rfl, Option.bind_some, if_neg one_n0, if_neg q8, if_neg q9, if_neg q10, if_neg q11, if_neg q12, if_pos rfl, show ((4 : Int32) + 13) - 8 = nI 9 from rfl, show (9 : Int32) = nI 9 from rfl, cn 9 (by omega) (by omega), mn 9 (by omega) (by omega)]
    exact ⟨_, rfl, rfl⟩
  have hin : MX6_in x0 8 13 = some 0 := by
    rcases rng x0 (lo := 8) (hi := 13) (by omega) (by omega) with ⟨k, k1, k2, rfl⟩ | q
    · exfalso
      have : k = 8 ∨ k = 9 ∨ k = 10 ∨ k = 11 ∨ k = 12 ∨ k = 13 := by omega
      rcases this with w | w | w | w | w | w
      · exact q8 (by rw [w]; rfl)
      · exact q9 (by rw [w]; rfl)
      · exact q10 (by rw [w]; rfl)
      · exact q11 (by rw [w]; rfl)
      · exact q12 (by rw [w]; rfl)
      · exact q13 (by rw [w]; rfl)
    · exact in_no q
  rw [hin, Option.bind_some, if_pos (show (0 : Int32) = 0 from rfl), if_neg q8, if_neg q9, if_neg q10, if_neg q11, if_neg q12, if_neg q13, if_neg q8, if_neg q9, if_neg q10, if_neg q11, if_neg q12, if_neg q13, if_neg e14, if_neg e15, if_neg e14, if_neg e15, C_brs h1, C_fds h1]
  by_cases q20 : x0 = 20
  · subst q20
    rw [show ((2 : Int32) + 20) - 20 = 2 from rfl, M_brs h2]
    repeat' (first | exact ⟨_, rfl, rfl⟩ | refine alike_ite (fun _ => ?_) (fun _ => ?_))
    all_goals (exfalso; rename_i w; exact absurd w (by decide))
  by_cases q21 : x0 = 21
  · subst q21
    rw [show ((2 : Int32) + 21) - 20 = 3 from rfl, M_fds h2]
    repeat' (first | exact ⟨_, rfl, rfl⟩ | refine alike_ite (fun _ => ?_) (fun _ => ?_))
    all_goals (exfalso; rename_i w; exact absurd w (by decide))
  rw [if_neg q20, if_neg q21, if_neg q20, if_neg q21]
  repeat' (first | exact ⟨_, rfl, rfl⟩ | refine alike_ite (fun _ => ?_) (fun _ => ?_))
/-- what mean divides -/
def gAge (a : Abs) (r k : Nat) (x : Int32) : Int32 := if nFr a r k = true then x + ageAt a r k else x
def gAges (a : Abs) (r : Nat) (x : Int32) : Int32 := foldN (gAge a r) x (aM a r).length
theorem C_ages (h : RepC a f) (hi : aInv a) : itr (SX4_meanAge_16 f) FU (0, 0) = some (foldN (gAges a) 0 (aG a 0)) := by
  have hn := hi.1.2
  refine loopN (step := SX4_meanAge_16 f) (aG a 0) (by omega) (gAges a) 0 (fun x => x) (fun r x hr => ?_) (fun x => ?_)
  · unfold SX4_meanAge_16
    dsimp only
    have hl := inv_len hi hr
    rw [C_n h, Option.bind_some, if_neg (nI_ge hr (by omega)), loopN (step := SX4_meanAge_31 f (x, nI r)) (aM a r).length (by omega) (gAge a r) x (fun x => x) (fun k y hk => ?_) (fun y => ?_)]
    · rw [Option.bind_some, nI_1]
      rfl
    · unfold SX4_meanAge_31 gAge
      dsimp only
      obtain ⟨e, he⟩ : ∃ e, (aM a r)[k]? = some e := ⟨_, List.getElem?_eq_getElem hk⟩
      have ho := inv_ok hi hr (List.mem_of_getElem? he)
      have hf : nFr a r k = !aOld a e := by unfold nFr; rw [he]
      have hg : ageAt a r k = nI (aG a 1 - e.2.2) := by unfold ageAt; rw [he]
      rw [C_ec h hi hr, Option.bind_some, if_neg (nI_ge hk (by omega)), C_echoIn h hi hr he, Option.bind_some, C_faded h hi ho.1 ho.2, Option.bind_some, C_age h ho.1 ho.2, Option.bind_some, nI_1, Int32.add_zero, hf, hg]
      by_cases q : aOld a e = true
      · rw [if_pos q, if_neg one_n0, q]; rfl
      · rw [if_neg q, if_pos rfl, Bool.eq_false_iff.mpr q]; rfl
    · unfold SX4_meanAge_31
      dsimp only
      rw [C_ec h hi hr, Option.bind_some, if_pos (nI_le (Nat.le_refl _) (by omega))]
  · unfold SX4_meanAge_16
    dsimp only
    rw [C_n h, Option.bind_some, if_pos (nI_le (Nat.le_refl _) (by omega))]
theorem M_ages (h : RepN a s) (hi : aInv a) : MX6_ages s = some (foldN (gAges a) 0 (aG a 0)) := by
  have hn := hi.1.2
  unfold MX6_ages
  rw [loopN (step := SX6_ages_4 s) (aG a 0) (by omega) (gAges a) 0 (fun x => x) (fun r x hr => ?_) (fun x => ?_)]
  · rfl
  · unfold SX6_ages_4
    dsimp only
    have hl := inv_len hi hr
    rw [M_n h, Option.bind_some, if_neg (nI_ge hr (by omega)), loopN (step := SX6_ages_16 s (x, nI r)) (aM a r).length (by omega) (gAge a r) x (fun x => x) (fun k y hk => ?_) (fun y => ?_)]
    · rw [Option.bind_some, nI_1]
      rfl
    · unfold SX6_ages_16 gAge
      dsimp only
      obtain ⟨e, he⟩ : ∃ e, (aM a r)[k]? = some e := ⟨_, List.getElem?_eq_getElem hk⟩
      have hf : nFr a r k = !aOld a e := by unfold nFr; rw [he]
      have hg : ageAt a r k = nI (aG a 1 - e.2.2) := by unfold ageAt; rw [he]
      rw [M_ec h hi hr, Option.bind_some, if_neg (nI_ge hk (by omega)), M_faded h hi hr he, Option.bind_some, M_age h hi hr he, Option.bind_some, nI_1, Int32.add_zero, hf, hg]
      by_cases q : aOld a e = true
      · rw [if_pos q, if_neg one_n0, q]; rfl
      · rw [if_neg q, if_pos rfl, Bool.eq_false_iff.mpr q]; rfl
    · unfold SX6_ages_16
      dsimp only
      rw [M_ec h hi hr, Option.bind_some, if_pos (nI_le (Nat.le_refl _) (by omega))]
  · unfold SX6_ages_4
    dsimp only
    rw [M_n h, Option.bind_some, if_pos (nI_le (Nat.le_refl _) (by omega))]
/-- the ages as a number -/
theorem ages_ub (hi : aInv a) : ∃ n, n ≤ 144 * 99 ∧ foldN (gAges a) 0 (aG a 0) = nI n := by
  have hn := hi.1.2
  have hf := hi.2.2.2.1.2
  have inner : ∀ r, r < aG a 0 → ∀ m, ∀ k, k ≤ (aM a r).length → ∃ n, n ≤ m + 99 * k ∧ foldN (gAge a r) (nI m) k = nI n := by
    intro r hr m k
    induction k with
    | zero => intro _; exact ⟨m, by omega, rfl⟩
    | succ k ih =>
      intro hk
      obtain ⟨n, h1, h2⟩ := ih (by omega)
      show ∃ n, _ ∧ gAge a r k (foldN (gAge a r) (nI m) k) = nI n
      rw [h2]
      unfold gAge
      by_cases q : nFr a r k = true
      · obtain ⟨e, he⟩ : ∃ e, (aM a r)[k]? = some e := ⟨_, List.getElem?_eq_getElem (by omega)⟩
        have hg : ageAt a r k = nI (aG a 1 - e.2.2) := by unfold ageAt; rw [he]
        have hq : aOld a e = false := by
          unfold nFr at q
          rw [he] at q
          simpa using q
        have : ¬ aG a 3 < aG a 1 - e.2.2 := fun w => by
          unfold aOld at hq
          exact absurd (decide_eq_true w) (by rw [hq]; decide)
        rw [if_pos q, hg, nI_add]
        exact ⟨_, by omega, rfl⟩
      · rw [if_neg q]
        exact ⟨n, by omega, rfl⟩
  have outer : ∀ r, r ≤ aG a 0 → ∃ n, n ≤ 99 * 16 * r ∧ foldN (gAges a) 0 r = nI n := by
    intro r
    induction r with
    | zero => intro _; exact ⟨0, by omega, rfl⟩
    | succ r ih =>
      intro hr
      obtain ⟨n, h1, h2⟩ := ih (by omega)
      show ∃ n, _ ∧ gAges a r (foldN (gAges a) 0 r) = nI n
      rw [h2]
      have hl := inv_len hi (show r < aG a 0 by omega)
      obtain ⟨m, h3, h4⟩ := inner r (by omega) n (aM a r).length (Nat.le_refl _)
      exact ⟨m, by omega, h4⟩
  obtain ⟨n, h1, h2⟩ := outer (aG a 0) (Nat.le_refl _)
  exact ⟨n, by omega, h2⟩
/-- what share divides -/
def sBk (a : Abs) (r : Nat) : Nat := if aF a 1 r = 1 then aBack a r else 0
def sLv (a : Abs) (r : Nat) : Nat := if aF a 1 r = 1 then 8 else 0
theorem C_share (h : RepC a f) (hi : aInv a) : itr (SX4_shareComingBack_6 f) FU (0, 0, 0) = some (nI (sm (sBk a) (aG a 0)), nI (sm (sLv a) (aG a 0))) := by
  have hn := hi.1.2
  refine itr_for (step := SX4_shareComingBack_6 f) (aG a 0) (fun k => (nI (sm (sBk a) k), nI (sm (sLv a) k), nI k)) _ (fun k hk => ?_) ?_ FU (FU_lt (by omega))
  · unfold SX4_shareComingBack_6
    dsimp only
    rw [C_n h, Option.bind_some, if_neg (nI_ge hk (by omega)), C_lives h hi hk, Option.bind_some, C_back h hi hk, Option.bind_some, nI_1, nI_add, show (8 : Int32) = nI 8 from rfl, nI_add]
    show _ = some (Sum.inl (nI (sm (sBk a) k + sBk a k), nI (sm (sLv a) k + sLv a k), nI (k + 1)))
    unfold sBk sLv
    by_cases q : aF a 1 k = 1
    · rw [if_pos q, if_neg one_n0, if_pos q, if_pos q]
    · rw [if_neg q, if_pos rfl, if_neg q, if_neg q]; rfl
  · unfold SX4_shareComingBack_6
    dsimp only
    rw [C_n h, Option.bind_some, if_pos (nI_le (Nat.le_refl _) (by omega))]
theorem M_share (h : RepN a s) (hw : RepW a s) (hi : aInv a) : itr (SX6_share_6 s) FU (0, 0, 0) = some (nI (sm (sBk a) (aG a 0)), nI (sm (sLv a) (aG a 0))) := by
  have hn := hi.1.2
  refine itr_for (step := SX6_share_6 s) (aG a 0) (fun k => (nI (sm (sBk a) k), nI (sm (sLv a) k), nI k)) _ (fun k hk => ?_) ?_ FU (FU_lt (by omega))
  · unfold SX6_share_6
    dsimp only
    rw [M_n h, Option.bind_some, if_neg (nI_ge hk (by omega)), M_lives h hi hk, Option.bind_some, M_back h hw hi hk, Option.bind_some, nI_1, Int32.add_zero, Int32.add_zero, show (8 : Int32) = nI 8 from rfl]
    show _ = some (Sum.inl (nI (sm (sBk a) k + sBk a k), nI (sm (sLv a) k + sLv a k), nI (k + 1)))
    unfold sBk sLv
    by_cases q : aF a 1 k = 1
    · rw [if_pos q, if_neg one_n0, if_pos q, if_pos q, Option.bind_some, Option.bind_some, if_neg one_n0, nI_add, nI_add]
    · rw [if_neg q, if_pos rfl, if_neg q, if_neg q, if_pos rfl]; rfl
  · unfold SX6_share_6
    dsimp only
    rw [M_n h, Option.bind_some, if_pos (nI_le (Nat.le_refl _) (by omega))]
end CNT2
