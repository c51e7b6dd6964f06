/-! beginning anew from bare rows -/
section BEGIN0
variable {a : Abs} {f s : Nat → Int32}
theorem C_begin0 (h : f 0 = nI (aG a 1) ∧ f 2 = nI (aG a 2) ∧ f 3 = nI (aG a 3)) (hi : aG a 1 ≤ 9999 ∧ (1 ≤ aG a 2 ∧ aG a 2 ≤ 16) ∧ (1 ≤ aG a 3 ∧ aG a 3 ≤ 99)) {n : Nat} (hn1 : 3 ≤ n) (hn2 : n ≤ 9) : ∃ g, MX3_beginAnew f (nI n) = some (nI (aBegin a n).1, g) ∧ RepC (aBegin a n).2 g := by
  unfold MX3_beginAnew
  rw [if_neg (show ¬ nI n < 3 from nI_nlt (b := 3) hn1 (by omega)), if_pos (show nI n ≤ 9 from nI_le (b := 9) hn2 (by decide)), show (1 : Int32) = nI 1 from rfl, putN f _ (by decide), Option.bind_some]
  obtain ⟨g1, hg1, q1, q2⟩ := itr_gen (step := SX3_beginAnew_22) 348
    (fun k s => s.1 = nI (4 + k) ∧ (∀ j, j < 4 → s.2 j = upd f 1 (nI n) j) ∧ (∀ j, 4 ≤ j → j < 4 + k → s.2 j = 0))
    (fun g => (∀ j, j < 4 → g j = upd f 1 (nI n) j) ∧ (∀ j, 4 ≤ j → j < 352 → g j = 0)) (by
      rintro k ⟨x, g⟩ hk ⟨q1, q2, q3⟩
      dsimp only at q1 q2 q3
      subst q1
      unfold SX3_beginAnew_22
      dsimp only
      rcases Nat.lt_or_ge k 348 with z | z
      · left
        refine ⟨z, ?_⟩
        rw [if_neg (show ¬ (352 : Int32) ≤ nI (4 + k) from nI_ge (b := 352) (by omega) (by decide)), putN g _ (by omega), Option.bind_some]
        refine ⟨_, rfl, nI_1 _, fun j hj => ?_, fun j h1 h2 => ?_⟩
        · dsimp only
          rw [pk_un (by omega)]
          exact q2 j hj
        · dsimp only
          by_cases y : j = 4 + k
          · subst y; exact pk_us
          · rw [pk_un y]
            exact q3 j h1 (by omega)
      · right
        have : k = 348 := by omega
        subst this
        rw [if_pos (by decide)]
        exact ⟨g, rfl, q2, q3⟩) FU (4, upd f 1 (nI n)) (FU_lt (by decide)) ⟨rfl, fun _ _ => rfl, fun j h1 h2 => by omega⟩
  rw [show (4 : Int32) = 4 from rfl, hg1, Option.bind_some]
  obtain ⟨g2, hg2, r1, r2, r3, r4⟩ := itr_gen (step := SX3_beginAnew_43 (nI n)) n
    (fun k s => s.1 = nI k ∧ (∀ j, j < 4 → s.2 j = upd f 1 (nI n) j) ∧ (∀ r, r < k → s.2 (10 + r) = nI r ∧ s.2 (19 + r) = nI r ∧ s.2 (28 + r) = nI 1) ∧ (∀ j, 4 ≤ j → j < 352 → (j < 10 ∨ 37 ≤ j) → s.2 j = 0))
    (fun g => (∀ j, j < 4 → g j = upd f 1 (nI n) j) ∧ (∀ r, r < n → g (10 + r) = nI r ∧ g (19 + r) = nI r ∧ g (28 + r) = nI 1) ∧ (∀ j, 4 ≤ j → j < 352 → (j < 10 ∨ 37 ≤ j) → g j = 0) ∧ True) (by
      rintro k ⟨x, g⟩ hk ⟨q1, q2, q3, q4⟩
      dsimp only at q1 q2 q3 q4
      subst q1
      unfold SX3_beginAnew_43
      dsimp only
      rcases Nat.lt_or_ge k n with z | z
      · left
        refine ⟨z, ?_⟩
        rw [if_neg (nI_ge z (by omega)), show (10 : Int32) = nI 10 from rfl, show (19 : Int32) = nI 19 from rfl, show (28 : Int32) = nI 28 from rfl, ix_a, ix_a, ix_a, putN g _ (by omega), Option.bind_some, putN _ _ (by omega), Option.bind_some, putN _ _ (by omega), Option.bind_some]
        refine ⟨_, rfl, nI_1 _, fun j hj => ?_, fun r hr => ?_, fun j h1 h2 h3 => ?_⟩
        · dsimp only
          rw [pk_un (by omega), pk_un (by omega), pk_un (by omega)]
          exact q2 j hj
        · dsimp only
          by_cases y : r = k
          · subst y
            refine ⟨?_, ?_, ?_⟩
            · rw [pk_un (by omega), pk_un (by omega), pk_us]
            · rw [pk_un (by omega), pk_us]
            · rw [pk_us]; rfl
          · obtain ⟨w1, w2, w3⟩ := q3 r (by omega)
            refine ⟨?_, ?_, ?_⟩
            · rw [pk_un (by omega), pk_un (by omega), pk_un (by omega)]; exact w1
            · rw [pk_un (by omega), pk_un (by omega), pk_un (by omega)]; exact w2
            · rw [pk_un (by omega), pk_un (by omega), pk_un (by omega)]; exact w3
        · dsimp only
          rw [pk_un (by omega), pk_un (by omega), pk_un (by omega)]
          exact q4 j h1 h2 h3
      · right
        have : k = n := by omega
        subst this
        rw [if_pos (nI_le (Nat.le_refl _) (by omega))]
        exact ⟨g, rfl, q2, q3, q4, trivial⟩) FU (0, g1) (FU_lt (by omega)) ⟨rfl, q1, fun r hr => absurd hr (Nat.not_lt_zero r), fun j h1 h2 _ => q2 j h1 h2⟩
  rw [hg2, Option.bind_some]
  -- the fresh state
  have G0 : aG (aFresh a n) 0 = n := fr_0 a n
  have hfresh : RepC (aFresh a n) g2 := by
    refine ⟨⟨?_, ?_, ?_, ?_⟩, fun i p q => r3 i p (by omega) (Or.inl q), fun r hr => ?_, fun r c hr hc => ?_, fun r k e hr he => by cases he⟩
    · rw [r1 0 (by decide), pk_un (by decide), h.1]
      exact congrArg nI (fr_i a n (by decide)).symm
    · rw [r1 1 (by decide), pk_us, G0]
    · rw [r1 2 (by decide), pk_un (by decide), h.2.1]
      exact congrArg nI (fr_i a n (by decide)).symm
    · rw [r1 3 (by decide), pk_un (by decide), h.2.2]
      exact congrArg nI (fr_i a n (by decide)).symm
    · rw [G0] at hr
      obtain ⟨w1, w2, w3⟩ := r2 r hr
      exact ⟨w1, w2, w3, r3 _ (by omega) (by omega) (by omega), r3 _ (by omega) (by omega) (by omega), r3 _ (by omega) (by omega) (by omega)⟩
    · rw [G0] at hr
      exact ⟨(r3 (64 + r * 8 + c) (by omega) (by omega) (by omega)).trans (show (0 : Int32) = nI 1 - 1 by decide), r3 (136 + r * 8 + c) (by omega) (by omega) (by omega)⟩
  have hiF : aInv (aFresh a n) := fresh_inv a hi.1 hi.2.1 hi.2.2 ⟨hn1, hn2⟩
  unfold MX3_layFirstEchoes
  obtain ⟨g3, hg3, s1⟩ := itr_gen (step := SX3_layFirstEchoes_2 (nI n)) n
    (fun k s => s.1 = nI k ∧ RepC (aLayRows (aFresh a n) k) s.2)
    (fun g => RepC (aLayRows (aFresh a n) n) g) (by
      rintro k ⟨x, g⟩ hk ⟨q1, q2⟩
      dsimp only at q1 q2
      subst q1
      unfold SX3_layFirstEchoes_2
      dsimp only
      rcases Nat.lt_or_ge k n with z | z
      · left
        refine ⟨z, ?_⟩
        obtain ⟨h1, h2, -, -, -⟩ := rows_inv hiF k (by rw [G0]; omega)
        obtain ⟨g', p1, p2⟩ := C_layRow q2 h1 (r := k) (by rw [h2, G0]; exact z)
        rw [if_neg (nI_ge z (by omega)), p1, Option.bind_some]
        exact ⟨_, rfl, nI_1 k, p2⟩
      · right
        have : k = n := by omega
        subst this
        rw [if_pos (nI_le (Nat.le_refl _) (by omega))]
        exact ⟨g, rfl, q2⟩) FU (0, g2) (FU_lt (by omega)) ⟨rfl, hfresh⟩
  rw [hg3, Option.bind_some]
  obtain ⟨h1, h2, h3, h4, h5⟩ := rows_inv hiF n (by rw [G0]; omega)
  have hGn : aG (aLayRows (aFresh a n) n) 0 = n := by rw [h2, G0]
  generalize hA : aLayRows (aFresh a n) n = A at s1 h1 h2 h3 h4 h5 hGn
  obtain ⟨⟨x, g4⟩, hg4, t1, t2⟩ := itr_gen (step := SX3_layFirstEchoes_23 (nI n)) n
    (fun k s => s.1 = nI (sm (fun r => (aM A r).length) k) ∧ s.2.1 = nI k ∧ RepC (A.1, A.2.1, A.2.2.1, (fun i r => if i = 3 ∧ r < k then 0 else aD A i r), A.2.2.2.2) s.2.2)
    (fun s => s.1 = nI (sm (fun r => (aM A r).length) n) ∧ RepC (A.1, A.2.1, A.2.2.1, (fun i r => if i = 3 ∧ r < n then 0 else aD A i r), A.2.2.2.2) s.2) (by
      rintro k ⟨x, y, g⟩ hk ⟨q1, q2, q3⟩
      dsimp only at q1 q2 q3
      subst q1
      subst q2
      unfold SX3_layFirstEchoes_23
      dsimp only
      rcases Nat.lt_or_ge k n with z | z
      · left
        refine ⟨z, ?_⟩
        have hkA : k < aG A 0 := by rw [hGn]; exact z
        rw [if_neg (nI_ge z (by omega)), ix_46, putN g _ (by omega), Option.bind_some]
        have k1 := rC_cr q3 (show aG A 0 ≤ 9 by rw [hGn]; exact hn2) (r := k) 0 hkA
        have he : MX3_get (upd g (46 + k) 0) (55 + nI k) = some (nI (aM A k).length) := by
          rw [ix_55, getN _ (by omega)]
          exact congrArg some (k1.2.2.1 k hkA).2.2.2.2.2
        rw [he, Option.bind_some]
        refine ⟨_, rfl, ?_, nI_1 k, ?_⟩
        · dsimp only
          rw [nI_add]
          rfl
        · refine RepC_congr k1 (fun _ => rfl) (fun _ => rfl) (fun _ _ => rfl) (fun i r => ?_) (fun _ _ _ => rfl) (fun _ _ _ => rfl) (fun _ => rfl)
          show (if i = 3 ∧ r < k + 1 then 0 else aD A i r) = up2 (fun i r => if i = 3 ∧ r < k then 0 else aD A i r) 3 k 0 i r
          by_cases y : i = 3 ∧ r = k
          · obtain ⟨rfl, rfl⟩ := y
            rw [up2_s, if_pos ⟨rfl, by omega⟩]
          · rw [up2_n _ _ y]
            by_cases y2 : i = 3 ∧ r < k
            · rw [if_pos y2, if_pos ⟨y2.1, by omega⟩]
            · rw [if_neg y2, if_neg (fun w => y2 ⟨w.1, by
                have : ¬ r = k := fun v => y ⟨w.1, v⟩
                omega⟩)]
      · right
        have : k = n := by omega
        subst this
        rw [if_pos (nI_le (Nat.le_refl _) (by omega))]
        exact ⟨_, rfl, rfl, q3⟩) FU (0, 0, g3) (FU_lt (by omega)) ⟨rfl, rfl, RepC_congr s1 (fun _ => rfl) (fun _ => rfl) (fun _ _ => rfl) (fun i r => by
          show (if i = 3 ∧ r < 0 then 0 else aD A i r) = aD A i r
          rw [if_neg (fun w => absurd w.2 (Nat.not_lt_zero r))]) (fun _ _ _ => rfl) (fun _ _ _ => rfl) (fun _ => rfl)⟩
  dsimp only at t1 t2
  subst t1
  rw [hg4, Option.bind_some, Option.bind_some]
  dsimp only
  rw [show (9 : Int32) = nI 9 from rfl, putN g4 _ (by decide), Option.bind_some]
  have k9 := rC_C t2 (show aG A 0 ≤ 9 by rw [hGn]; exact hn2) (j := 9) 0 (by decide) (by decide)
  refine ⟨upd g4 9 0, ?_, ?_⟩
  · unfold aBegin aEchoes
    dsimp only
    rw [hA, hGn]
  · unfold aBegin
    dsimp only
    rw [hA]
    obtain ⟨w1, w2, w3, w4, w5⟩ := k9
    refine ⟨w1, w2, fun r hr => ?_, w4, w5⟩
    have hr' : r < n := by rw [← hGn]; exact hr
    have := w3 r hr
    refine ⟨this.1, this.2.1, this.2.2.1, this.2.2.2.1, this.2.2.2.2.1.trans ?_, this.2.2.2.2.2⟩
    show (if 3 = 3 ∧ r < n then 0 else aD A 3 r) = (if 3 = 3 then 0 else aD A 3 r)
    rw [if_pos ⟨rfl, hr'⟩, if_pos rfl]
def abs0 : Abs := (fun i => if i = 2 then 8 else if i = 3 then 20 else 0, fun _ => 0, fun _ _ => 0, fun _ _ => 0, fun _ _ => 0, fun _ _ => 0, fun _ => [])
def row0 : Nat → Int32 := upd (upd (fun _ => 0) 2 8) 3 20
end BEGIN0
