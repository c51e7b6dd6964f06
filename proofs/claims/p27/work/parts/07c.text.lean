/-! the text: both sides read it alike -/
def tAt (n : Nat) (sg : Nat → Int32) (i : Nat) : Int32 := if i < n then sg i else 0
theorem C_sign {n i : Nat} {sg : Nat → Int32} (hn : n ≤ 60) (hi : i < 2 ^ 31) : MX2_signAt (nI n) sg (nI i) = some (tAt n sg i) := by
  unfold MX2_signAt tAt
  rw [if_neg (nI_pos hi)]
  rcases Nat.lt_or_ge i n with w | w
  · rw [if_neg (nI_ge w (by omega)), if_neg (show ¬ (60 : Int32) ≤ nI i from nI_ge (b := 60) (by omega) (by omega)), ldA_nI (by omega) (by decide), Option.bind_some, Option.bind_some, if_pos w]
    rfl
  · rw [if_pos (nI_le w hi), Option.bind_some, if_neg (by omega)]
    rfl
/-- a sign's digit, or none -/
def dgt (x : Int32) : Option Nat := if ¬ x < 48 ∧ x ≤ 57 then some (x.toInt.toNat - 48) else none
theorem dgt_cases (x : Int32) : (∃ d, d ≤ 9 ∧ x = nI (48 + d) ∧ dgt x = some d ∧ ¬ x < 48 ∧ x ≤ 57 ∧ True) ∨ (dgt x = none ∧ True ∧ (x < 48 ∨ (¬ x < 48 ∧ ¬ x ≤ 57))) := by
  rcases rng x (lo := 48) (hi := 57) (by omega) (by omega) with ⟨k, k1, k2, rfl⟩ | q
  · left
    have h1 : ¬ nI k < 48 := (rng_no k1 k2 (by omega)).1
    have h2 : nI k ≤ 57 := nI_le (b := 57) k2 (by omega)
    refine ⟨k - 48, by omega, by rw [show 48 + (k - 48) = k by omega], ?_, h1, h2, trivial⟩
    unfold dgt
    rw [if_pos ⟨h1, h2⟩, nI_toInt (by omega)]
    rfl
  · right
    have h4 : x < 48 ∨ (¬ x < 48 ∧ ¬ x ≤ 57) := by
      rcases q with q | q
      · exact Or.inl q
      · by_cases w : x < 48
        · exact Or.inl w
        · exact Or.inr ⟨w, not_le_of q⟩
    refine ⟨?_, trivial, h4⟩
    unfold dgt
    rw [if_neg (fun z => by
      rcases h4 with w | w
      · exact z.1 w
      · exact w.2 z.2)]
/-- how many digits stand there (three at most), and their number -/
def nf (t : Nat → Int32) (p : Nat) : Nat → Nat × Nat
  | 0 => (0, 0)
  | k + 1 => match dgt (t (p + k)) with
    | none => nf t p k
    | some d => if (nf t p k).1 = k then (k + 1, 10 * (nf t p k).2 + d) else nf t p k
theorem nf_succ (t : Nat → Int32) (p k : Nat) : nf t p (k + 1) = (match dgt (t (p + k)) with
    | none => nf t p k
    | some d => if (nf t p k).1 = k then (k + 1, 10 * (nf t p k).2 + d) else nf t p k) := rfl
theorem nf_le (t : Nat → Int32) (p : Nat) : ∀ k, (nf t p k).1 ≤ k ∧ (nf t p k).2 < 10 ^ k
  | 0 => ⟨Nat.le_refl 0, (show (0 : Nat) < 1 from Nat.one_pos)⟩
  | k + 1 => by
    have h := nf_le t p k
    have e : 10 ^ (k + 1) = 10 * 10 ^ k := Nat.pow_succ'
    rw [nf_succ]
    rcases dgt_cases (t (p + k)) with ⟨d, d1, _, d3, _⟩ | ⟨d3, _⟩
    · rw [d3]
      dsimp only
      split
      · exact ⟨Nat.le_refl _, by show 10 * (nf t p k).2 + d < _; omega⟩
      · exact ⟨by omega, by omega⟩
    · rw [d3]
      exact ⟨by show (nf t p k).1 ≤ _; omega, by show (nf t p k).2 < _; omega⟩
theorem nf_stop (t : Nat → Int32) (p k : Nat) (h : dgt (t (p + k)) = none) (hk : (nf t p k).1 = k) : ∀ j, nf t p (k + j) = nf t p k
  | 0 => rfl
  | j + 1 => by
    have ih := nf_stop t p k h hk j
    show nf t p ((k + j) + 1) = _
    rw [nf_succ]
    rcases Nat.eq_zero_or_pos j with z | z
    · subst z
      rw [Nat.add_zero, h]
    · cases q : dgt (t (p + (k + j))) with
      | none => exact ih
      | some d =>
        dsimp only
        rw [ih, if_neg (by omega)]
theorem nf_step (t : Nat → Int32) (p k d : Nat) (h : dgt (t (p + k)) = some d) (hk : (nf t p k).1 = k) : nf t p (k + 1) = (k + 1, 10 * (nf t p k).2 + d) := by
  show (match dgt (t (p + k)) with
    | none => nf t p k
    | some d => if (nf t p k).1 = k then (k + 1, 10 * (nf t p k).2 + d) else nf t p k) = _
  rw [h]
  dsimp only
  rw [if_pos hk]
theorem val10 (v d : Nat) : ((nI v * 10) + nI (48 + d)) - 48 = nI (10 * v + d) := by
  rw [show (10 : Int32) = nI 10 from rfl, show (48 : Int32) = nI 48 from rfl, show nI v * nI 10 = nI (v * 10) from (Int32.ofNat_mul v 10).symm, nI_add, pk_sub (by omega)]
  congr 1
  omega
theorem val10' (v d : Nat) : ((10 * nI v) + nI (48 + d)) - 48 = nI (10 * v + d) := by
  rw [show (10 : Int32) = nI 10 from rfl, show (48 : Int32) = nI 48 from rfl, show nI 10 * nI v = nI (10 * v) from (Int32.ofNat_mul 10 v).symm, nI_add, pk_sub (by omega)]
  congr 1
  omega
def nmI (x : Nat × Nat) : Int32 := if x.1 = 0 then -1 else nI x.2
theorem C_number {n p : Nat} {sg : Nat → Int32} (hn : n ≤ 60) (hp : p < 2 ^ 20) : MX2_readNumber (nI n) (nI p) sg = some (nmI (nf (tAt n sg) p 3), nI (p + (nf (tAt n sg) p 3).1)) := by
  unfold MX2_readNumber
  obtain ⟨r, e1, e2⟩ := itr_gen (step := SX2_readNumber_4 (nI n) sg) 3 (fun k s => (nf (tAt n sg) p k).1 = k ∧ s = (nmI (nf (tAt n sg) p k), nI k, nI (p + k))) (fun r => cnt (fun j2 => some (j2.1, j2.2)) r = some (nmI (nf (tAt n sg) p 3), nI (p + (nf (tAt n sg) p 3).1))) (fun k s hk hI => by
    obtain ⟨q1, rfl⟩ := hI
    unfold SX2_readNumber_4
    dsimp only
    rcases Nat.lt_or_ge k 3 with w | w
    · rw [if_neg (show ¬ (3 : Int32) ≤ nI k from nI_ge (b := 3) w (by omega)), C_sign hn (by omega), Option.bind_some]
      rcases dgt_cases (tAt n sg (p + k)) with ⟨d, d1, d2, d3, d4, d5, d6⟩ | ⟨d3, d4, d5⟩
      · left
        refine ⟨w, ?_⟩
        have hs := nf_step (tAt n sg) p k d d3 q1
        rw [if_neg d4, if_pos d5, nI_1, nI_1]
        refine ⟨_, rfl, by rw [hs], ?_⟩
        rw [hs]
        have : (if nmI (nf (tAt n sg) p k) < 0 then 0 else nmI (nf (tAt n sg) p k)) = nI (nf (tAt n sg) p k).2 := by
          unfold nmI
          have hl := (nf_le (tAt n sg) p k).2
          rw [q1]
          by_cases y : k = 0
          · subst y
            rw [if_pos rfl, if_pos (by decide)]
            rfl
          · have : (10 : Nat) ^ k ≤ 10 ^ 3 := Nat.pow_le_pow_right (by decide) (by omega)
            rw [if_neg y, if_neg (nI_pos (by omega))]
        rw [this, d2, val10]
        rfl
      · right
        have hs : nf (tAt n sg) p 3 = nf (tAt n sg) p k := by
          have := nf_stop (tAt n sg) p k d3 q1 (3 - k)
          rw [show k + (3 - k) = 3 by omega] at this
          exact this
        rw [hs, q1]
        rcases d5 with d5 | d5
        · rw [if_pos d5]
          exact ⟨_, rfl, rfl⟩
        · rw [if_neg d5.1, if_neg d5.2]
          exact ⟨_, rfl, rfl⟩
    · right
      have : k = 3 := by omega
      subst this
      rw [if_pos (show (3 : Int32) ≤ nI 3 from by decide), q1]
      exact ⟨_, rfl, rfl⟩) FU (-1, 0, nI p) (FU_lt (by decide)) ⟨rfl, rfl⟩
  rw [e1, Option.bind_some, e2]
