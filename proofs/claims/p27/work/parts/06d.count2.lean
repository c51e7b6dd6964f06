/-! count, safeFor, and what mean and share divide -/
section CNT2
variable {a : Abs} {f s : Nat → Int32}
theorem C_cnt (h : RepC a f) {i : Nat} (h1 : 4 ≤ i) (h2 : i < 10) : MX3_get f (nI i) = some (aC a i) := by rw [getN f (by omega), h.2.1 i h1 h2]
theorem sm_lens (hi : aInv a) : aEchoes a ≤ 144 := by
  have := hi.1.2
  have h2 := sm_ub (f := fun r => (aM a r).length) (b := 16) (aG a 0) (fun k hk => inv_len hi hk)
  have : 16 * aG a 0 ≤ 16 * 9 := Nat.mul_le_mul_left _ this
  unfold aEchoes
  omega
/-- what mean divides -/
def gAge (a : Abs) (r k : Nat) (x : Int32) : Int32 := if nFr a r k = true then x + ageAt a r k else x
def gAges (a : Abs) (r : Nat) (x : Int32) : Int32 := foldN (gAge a r) x (aM a r).length
theorem C_ages (h : RepC a f) (hi : aInv a) : itr (SX4_meanAge_16 f) FU (0, 0) = some (foldN (gAges a) 0 (aG a 0)) := by
  have hn := hi.1.2
  refine loopN (step := SX4_meanAge_16 f) (aG a 0) (by omega) (gAges a) 0 (fun x => x) (fun r x hr => ?_) (fun x => ?_)
  · unfold SX4_meanAge_16
    dsimp only
    have hl := inv_len hi hr
    rw [C_n h, Option.bind_some, if_neg (nI_ge hr (by omega)), loopN (step := SX4_meanAge_31 f (x, nI r)) (aM a r).length (by omega) (gAge a r) x (fun x => x) (fun k y hk => ?_) (fun y => ?_)]
    · rw [Option.bind_some, nI_1]
      rfl
    · unfold SX4_meanAge_31 gAge
      dsimp only
      obtain ⟨e, he⟩ : ∃ e, (aM a r)[k]? = some e := ⟨_, List.getElem?_eq_getElem hk⟩
      have ho := inv_ok hi hr (List.mem_of_getElem? he)
      have hf : nFr a r k = !aOld a e := by unfold nFr; rw [he]
      have hg : ageAt a r k = nI (aG a 1 - e.2.2) := by unfold ageAt; rw [he]
      rw [C_ec h hi hr, Option.bind_some, if_neg (nI_ge hk (by omega)), C_echoIn h hi hr he, Option.bind_some, C_faded h hi ho.1 ho.2, Option.bind_some, C_age h ho.1 ho.2, Option.bind_some, nI_1, Int32.add_zero, hf, hg]
      by_cases q : aOld a e = true
      · rw [if_pos q, if_neg one_n0, q]; rfl
      · rw [if_neg q, if_pos rfl, Bool.eq_false_iff.mpr q]; rfl
    · unfold SX4_meanAge_31
      dsimp only
      rw [C_ec h hi hr, Option.bind_some, if_pos (nI_le (Nat.le_refl _) (by omega))]
  · unfold SX4_meanAge_16
    dsimp only
    rw [C_n h, Option.bind_some, if_pos (nI_le (Nat.le_refl _) (by omega))]
/-- the ages as a number -/
theorem ages_ub (hi : aInv a) : ∃ n, n ≤ 144 * 99 ∧ foldN (gAges a) 0 (aG a 0) = nI n := by
  have hn := hi.1.2
  have hf := hi.2.2.2.1.2
  have inner : ∀ r, r < aG a 0 → ∀ m, ∀ k, k ≤ (aM a r).length → ∃ n, n ≤ m + 99 * k ∧ foldN (gAge a r) (nI m) k = nI n := by
    intro r hr m k
    induction k with
    | zero => intro _; exact ⟨m, by omega, rfl⟩
    | succ k ih =>
      intro hk
      obtain ⟨n, h1, h2⟩ := ih (by omega)
      show ∃ n, _ ∧ gAge a r k (foldN (gAge a r) (nI m) k) = nI n
      rw [h2]
      unfold gAge
      by_cases q : nFr a r k = true
      · obtain ⟨e, he⟩ : ∃ e, (aM a r)[k]? = some e := ⟨_, List.getElem?_eq_getElem (by omega)⟩
        have hg : ageAt a r k = nI (aG a 1 - e.2.2) := by unfold ageAt; rw [he]
        have hq : aOld a e = false := by
          unfold nFr at q
          rw [he] at q
          simpa using q
        have : ¬ aG a 3 < aG a 1 - e.2.2 := fun w => by
          unfold aOld at hq
          exact absurd (decide_eq_true w) (by rw [hq]; decide)
        rw [if_pos q, hg, nI_add]
        exact ⟨_, by omega, rfl⟩
      · rw [if_neg q]
        exact ⟨n, by omega, rfl⟩
  have outer : ∀ r, r ≤ aG a 0 → ∃ n, n ≤ 99 * 16 * r ∧ foldN (gAges a) 0 r = nI n := by
    intro r
    induction r with
    | zero => intro _; exact ⟨0, by omega, rfl⟩
    | succ r ih =>
      intro hr
      obtain ⟨n, h1, h2⟩ := ih (by omega)
      show ∃ n, _ ∧ gAges a r (foldN (gAges a) 0 r) = nI n
      rw [h2]
      have hl := inv_len hi (show r < aG a 0 by omega)
      obtain ⟨m, h3, h4⟩ := inner r (by omega) n (aM a r).length (Nat.le_refl _)
      exact ⟨m, by omega, h4⟩
  obtain ⟨n, h1, h2⟩ := outer (aG a 0) (Nat.le_refl _)
  exact ⟨n, by omega, h2⟩
/-- what share divides -/
def sBk (a : Abs) (r : Nat) : Nat := if aF a 1 r = 1 then aBack a r else 0
def sLv (a : Abs) (r : Nat) : Nat := if aF a 1 r = 1 then 8 else 0
theorem C_share (h : RepC a f) (hi : aInv a) : itr (SX4_shareComingBack_6 f) FU (0, 0, 0) = some (nI (sm (sBk a) (aG a 0)), nI (sm (sLv a) (aG a 0))) := by
  have hn := hi.1.2
  refine itr_for (step := SX4_shareComingBack_6 f) (aG a 0) (fun k => (nI (sm (sBk a) k), nI (sm (sLv a) k), nI k)) _ (fun k hk => ?_) ?_ FU (FU_lt (by omega))
  · unfold SX4_shareComingBack_6
    dsimp only
    rw [C_n h, Option.bind_some, if_neg (nI_ge hk (by omega)), C_lives h hi hk, Option.bind_some, C_back h hi hk, Option.bind_some, nI_1, nI_add, show (8 : Int32) = nI 8 from rfl, nI_add]
    show _ = some (Sum.inl (nI (sm (sBk a) k + sBk a k), nI (sm (sLv a) k + sLv a k), nI (k + 1)))
    unfold sBk sLv
    by_cases q : aF a 1 k = 1
    · rw [if_pos q, if_neg one_n0, if_pos q, if_pos q]
    · rw [if_neg q, if_pos rfl, if_neg q, if_neg q]; rfl
  · unfold SX4_shareComingBack_6
    dsimp only
    rw [C_n h, Option.bind_some, if_pos (nI_le (Nat.le_refl _) (by omega))]
end CNT2
