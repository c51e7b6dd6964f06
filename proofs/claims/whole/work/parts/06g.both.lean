/-! each change, both sides alike -/
def Opp (kn : Int32) (s pa f : Nat → Int32) (R : Int32 × (Nat → Int32)) (C : Option (Int32 × (Nat → Int32))) (M : Option (Int32 × Int32 × (Nat → Int32) × (Nat → Int32))) : Prop :=
  (∃ x, x < 0 ∧ C = some (x, f) ∧ M = some (x, kn, s, pa)) ∨
  (∃ n a' g g', n < 2 ^ 31 ∧ C = some (nI n, g) ∧ M = some (nI n, R.1, g', R.2) ∧ Two a' g g')
section BOTH
variable {a : Abs} {f s pa : Nat → Int32} {kn : Int32} {R : Int32 × (Nat → Int32)}
theorem no_1 : (-1000001 : Int32) < 0 := by decide
theorem no_2 : (-1000002 : Int32) < 0 := by decide
theorem no_3 : (-1000003 : Int32) < 0 := by decide
theorem nn_1 : ¬ (0 : Int32) ≤ -1000001 := by decide
theorem nn_2 : ¬ (0 : Int32) ≤ -1000002 := by decide
theorem nn_3 : ¬ (0 : Int32) ≤ -1000003 := by decide
theorem yy_0 : (0 : Int32) ≤ 0 := by decide
theorem lv_no {p : Prop} [Decidable p] (q : ¬ p) : (if p then (1 : Int32) else 0) = 0 := if_neg q
theorem go_write (h : Two a f s) (hR : MX6_records kn s pa = some R) (x0 x1 x2 : Int32) : Opp kn s pa f R (MX3_writeCell f x0 x1 x2) (MX6_write kn s pa x0 x1 x2) := by
  unfold MX6_write MX6_errorWrite
  rcases two_row h x0 with ⟨r, hr, rfl, e1, e2⟩ | ⟨e1, e2⟩
  · rcases two_cell x1 with ⟨c, hc, rfl, e3, e4⟩ | ⟨e3, e4⟩
    · rw [e2, Option.bind_some, if_neg one_n0, e4, Option.bind_some, if_neg one_n0]
      obtain ⟨h1, h2, h3, h4, h5⟩ := h
      rcases rng x2 (lo := 0) (hi := 999) (by omega) (by omega) with ⟨v, v1, v2, rfl⟩ | q
      · have hin := in_yes (k := v) v1 v2 (by omega)
        rw [show (0 : Int32) = nI 0 from rfl, show (999 : Int32) = nI 999 from rfl, hin, Option.bind_some, if_neg (show ¬ (1 : Int32) = nI 0 by decide)]
        by_cases w : aF a 1 r = 1
        · rw [M_lives h2 h4 hr, Option.bind_some, if_pos w, if_neg (show ¬ (1 : Int32) = nI 0 by decide), Option.bind_some, if_pos (show nI 0 ≤ nI 0 by decide), hR, Option.bind_some]
          obtain ⟨g, p1, p2⟩ := C_write h1 h4 hr hc v2 w
          obtain ⟨g', p3, p4, p5⟩ := M_write h2 h3 h4 hr hc v2 w
          rw [p3, Option.bind_some]
          have := lay1_le (sC (sW (sV a r c (v + 1)) r c 0) 4 (aC a 4 + 1)) r c (aHold a r c)
          exact Or.inr ⟨(aWrite a r c v).1, (aWrite a r c v).2, g, g', Nat.lt_of_le_of_lt this (by omega), p1, rfl, p2, p4, p5, write_inv h4 hr hc v2, write_wz h5 r c v⟩
        · rw [M_lives h2 h4 hr, Option.bind_some, lv_no w, if_pos (show (0 : Int32) = nI 0 from rfl), Option.bind_some, if_neg (show ¬ nI 0 ≤ (-1000002 : Int32) from nn_2)]
          refine Or.inl ⟨_, no_2, ?_, rfl⟩
          unfold MX3_writeCell
          rw [e1, Option.bind_some, if_neg one_n0, e3, Option.bind_some, if_neg one_n0, if_neg (show ¬ nI v < 0 from (rng_no v1 v2 (by omega)).1), if_pos (show nI v ≤ 999 from nI_le (b := 999) v2 (by omega)), C_livesb h1 h4 hr, Option.bind_some, lv_no w, if_pos rfl]
      · have hin := in_no q
        rw [show (0 : Int32) = nI 0 from rfl, show (999 : Int32) = nI 999 from rfl, hin, Option.bind_some, if_pos (show (0 : Int32) = nI 0 from rfl), Option.bind_some, if_neg (show ¬ nI 0 ≤ (-1000001 : Int32) from nn_1)]
        refine Or.inl ⟨_, no_1, ?_, rfl⟩
        unfold MX3_writeCell
        rw [e1, Option.bind_some, if_neg one_n0, e3, Option.bind_some, if_neg one_n0]
        by_cases q1 : x2 < 0
        · rw [if_pos q1]
        · rw [if_neg q1, if_neg (by
            rcases q with q | q
            · exact absurd q q1
            · intro w
              rw [Int32.le_iff_toInt_le] at w
              rw [Int32.lt_iff_toInt_lt] at q
              exact absurd w (show ¬ x2.toInt ≤ (999 : Int32).toInt from Int.not_le.mpr q))]
    · rw [e2, Option.bind_some, if_neg one_n0, e4, Option.bind_some, if_pos rfl, Option.bind_some, if_neg nn_1]
      refine Or.inl ⟨_, no_1, ?_, rfl⟩
      unfold MX3_writeCell
      rw [e1, Option.bind_some, if_neg one_n0, e3, Option.bind_some, if_pos rfl]
  · rw [e2, Option.bind_some, if_pos rfl, Option.bind_some, if_neg nn_1]
    refine Or.inl ⟨_, no_1, ?_, rfl⟩
    unfold MX3_writeCell
    rw [e1, Option.bind_some, if_pos rfl]
theorem go_lose (h : Two a f s) (hR : MX6_records kn s pa = some R) (x0 : Int32) : Opp kn s pa f R (MX3_loseRow f x0) (MX6_lose kn s pa x0) := by
  unfold MX6_lose MX6_errorOf
  rcases two_row h x0 with ⟨r, hr, rfl, e1, e2⟩ | ⟨e1, e2⟩
  · obtain ⟨h1, h2, h3, h4, h5⟩ := h
    rw [e2, Option.bind_some, if_neg one_n0, M_lives h2 h4 hr, Option.bind_some]
    by_cases w : aF a 1 r = 1
    · rw [if_pos w, if_pos rfl, Option.bind_some, if_pos yy_0, hR, Option.bind_some]
      obtain ⟨g, p1, p2⟩ := C_lose h1 h4 hr w
      obtain ⟨g', p3, p4, p5⟩ := M_lose h2 h3 h4 hr w
      rw [p3, Option.bind_some]
      have := aBack_le a r
      exact Or.inr ⟨(aLose a r).1, (aLose a r).2, g, g', Nat.lt_of_le_of_lt this (by omega), p1, rfl, p2, p4, p5, lose_inv h4 r, lose_wz h5 r⟩
    · rw [lv_no w, if_neg (show ¬ (0 : Int32) = 1 by decide), Option.bind_some, if_neg nn_2]
      refine Or.inl ⟨_, no_2, ?_, rfl⟩
      unfold MX3_loseRow
      rw [e1, Option.bind_some, if_neg one_n0, C_livesb h1 h4 hr, Option.bind_some, lv_no w, if_pos rfl]
  · rw [e2, Option.bind_some, if_pos rfl, Option.bind_some, if_neg nn_1]
    refine Or.inl ⟨_, no_1, ?_, rfl⟩
    unfold MX3_loseRow
    rw [e1, Option.bind_some, if_pos rfl]
theorem go_mend (h : Two a f s) (hR : MX6_records kn s pa = some R) (x0 : Int32) : Opp kn s pa f R (MX3_mendRow f x0) (MX6_mend kn s pa x0) := by
  unfold MX6_mend MX6_errorOf
  rcases two_row h x0 with ⟨r, hr, rfl, e1, e2⟩ | ⟨e1, e2⟩
  · obtain ⟨h1, h2, h3, h4, h5⟩ := h
    rw [e2, Option.bind_some, if_neg one_n0, M_lives h2 h4 hr, Option.bind_some]
    by_cases w : aF a 1 r = 1
    · rw [if_pos w, if_neg one_n0, Option.bind_some, if_neg nn_2]
      refine Or.inl ⟨_, no_2, ?_, rfl⟩
      unfold MX3_mendRow
      rw [e1, Option.bind_some, if_neg one_n0, C_livesb h1 h4 hr, Option.bind_some, if_pos w, if_neg one_n0]
    · have w0 : aF a 1 r = 0 := by
        have := (h4.2.2.2.2.1 r hr).2.2.2.2.1
        omega
      rw [lv_no w, if_pos rfl, Option.bind_some, if_pos yy_0, hR, Option.bind_some]
      obtain ⟨g, p1, p2⟩ := C_mend h1 h4 hr w0
      obtain ⟨g', p3, p4, p5⟩ := M_mend h2 h3 h4 hr w0
      rw [p3, Option.bind_some]
      have := aBack_le a r
      exact Or.inr ⟨(aMend a r).1, (aMend a r).2, g, g', Nat.lt_of_le_of_lt this (by omega), p1, rfl, p2, p4, p5, mend_inv h4 hr, mend_wz h5 r⟩
  · rw [e2, Option.bind_some, if_pos rfl, Option.bind_some, if_neg nn_1]
    refine Or.inl ⟨_, no_1, ?_, rfl⟩
    unfold MX3_mendRow
    rw [e1, Option.bind_some, if_pos rfl]
theorem go_lay (h : Two a f s) (hR : MX6_records kn s pa = some R) (x0 : Int32) : Opp kn s pa f R (MX3_layAnew f x0) (MX6_lay kn s pa x0) := by
  unfold MX6_lay MX6_errorOf
  rcases two_row h x0 with ⟨r, hr, rfl, e1, e2⟩ | ⟨e1, e2⟩
  · obtain ⟨h1, h2, h3, h4, h5⟩ := h
    rw [e2, Option.bind_some, if_neg one_n0, M_lives h2 h4 hr, Option.bind_some]
    by_cases w : aF a 1 r = 1
    · rw [if_pos w, if_pos rfl, Option.bind_some, if_pos yy_0, hR, Option.bind_some]
      obtain ⟨g, p1, p2⟩ := C_layAnew h1 h4 hr w
      obtain ⟨g', p3, p4, p5⟩ := M_laysRow h2 h3 h4 hr
      rw [p3, Option.bind_some]
      have := layR_le a r
      exact Or.inr ⟨(aLayRow a r).1, (aLayRow a r).2, g, g', Nat.lt_of_le_of_lt this (by omega), p1, rfl, p2, p4, p5, layR_inv h4 hr, Wz_layR h5 r⟩
    · rw [lv_no w, if_neg (show ¬ (0 : Int32) = 1 by decide), Option.bind_some, if_neg nn_2]
      refine Or.inl ⟨_, no_2, ?_, rfl⟩
      unfold MX3_layAnew
      rw [e1, Option.bind_some, if_neg one_n0, C_livesb h1 h4 hr, Option.bind_some, lv_no w, if_pos rfl]
  · rw [e2, Option.bind_some, if_pos rfl, Option.bind_some, if_neg nn_1]
    refine Or.inl ⟨_, no_1, ?_, rfl⟩
    unfold MX3_layAnew
    rw [e1, Option.bind_some, if_pos rfl]
theorem far_le (hi : aInv a) {x y : Nat} (hx : x < aG a 0) (hy : y < aG a 0) : aFar a x y ≤ 9 := by
  have h1 := (hi.2.2.2.2.1 x hx).1
  have h2 := (hi.2.2.2.2.1 y hy).1
  have := hi.1.2
  unfold aFar
  dsimp only
  split <;> omega
theorem go_swap (h : Two a f s) (hR : MX6_records kn s pa = some R) (x0 x1 : Int32) : Opp kn s pa f R (MX3_swapRows f x0 x1) (MX6_swap kn s pa x0 x1) := by
  unfold MX6_swap MX6_errorSwap
  have hh := two_row h x1
  rcases two_row h x0 with ⟨x, hx, rfl, e1, e2⟩ | ⟨e1, e2⟩
  · rw [e2, Option.bind_some, if_neg one_n0]
    rcases hh with ⟨y, hy, rfl, e3, e4⟩ | ⟨e3, e4⟩
    · obtain ⟨h1, h2, h3, h4, h5⟩ := h
      have hn := h4.1
      rw [e4, Option.bind_some, if_neg one_n0]
      by_cases q : nI x = nI y
      · rw [if_pos q, Option.bind_some, if_neg nn_1]
        refine Or.inl ⟨_, no_1, ?_, rfl⟩
        unfold MX3_swapRows
        rw [e1, Option.bind_some, if_neg one_n0, e3, Option.bind_some, if_neg one_n0, if_pos q]
      · have hxy : ¬ x = y := fun z => q (by rw [z])
        rw [if_neg q, M_lives h2 h4 hx, Option.bind_some, M_lives h2 h4 hy]
        by_cases w : aF a 1 x = 1
        · rw [if_pos w, if_neg one_n0, Option.bind_some]
          by_cases w2 : aF a 1 y = 1
          · rw [if_pos w2, if_neg one_n0, Option.bind_some, if_pos yy_0, hR, Option.bind_some]
            obtain ⟨g, p1, p2⟩ := C_swap h1 h4 hx hy hxy w w2
            obtain ⟨g', p3, p4, p5⟩ := M_swap h2 h3 h4 hx hy
            rw [p3, Option.bind_some]
            have := far_le h4 hx hy
            exact Or.inr ⟨(aSwap a x y).1, (aSwap a x y).2, g, g', Nat.lt_of_le_of_lt this (by omega), p1, rfl, p2, p4, p5, swap_inv h4 hx hy hxy, swap_wz h5 x y⟩
          · rw [lv_no w2, if_pos rfl, Option.bind_some, if_neg nn_2]
            refine Or.inl ⟨_, no_2, ?_, rfl⟩
            unfold MX3_swapRows
            rw [e1, Option.bind_some, if_neg one_n0, e3, Option.bind_some, if_neg one_n0, if_neg q, C_livesb h1 h4 hx, Option.bind_some, if_pos w, if_neg one_n0, C_livesb h1 h4 hy, Option.bind_some, lv_no w2, if_pos rfl]
        · rw [lv_no w, if_pos rfl, Option.bind_some, if_neg nn_2]
          refine Or.inl ⟨_, no_2, ?_, rfl⟩
          unfold MX3_swapRows
          rw [e1, Option.bind_some, if_neg one_n0, e3, Option.bind_some, if_neg one_n0, if_neg q, C_livesb h1 h4 hx, Option.bind_some, lv_no w, if_pos rfl]
    · rw [e4, Option.bind_some, if_pos rfl, Option.bind_some, if_neg nn_1]
      refine Or.inl ⟨_, no_1, ?_, rfl⟩
      unfold MX3_swapRows
      rw [e1, Option.bind_some, if_neg one_n0, e3, Option.bind_some, if_pos rfl]
  · rw [e2, Option.bind_some, if_pos rfl, Option.bind_some, if_neg nn_1]
    refine Or.inl ⟨_, no_1, ?_, rfl⟩
    unfold MX3_swapRows
    rw [e1, Option.bind_some, if_pos rfl]
theorem not_le_of {x : Int32} {b : Nat} (q : nI b < x) : ¬ x ≤ nI b := by
  intro w
  rw [Int32.le_iff_toInt_le] at w
  rw [Int32.lt_iff_toInt_lt] at q
  exact absurd w (Int.not_le.mpr q)
theorem go_days (h : Two a f s) (hR : MX6_records kn s pa = some R) (x0 : Int32) : Opp kn s pa f R (MX3_endDays f x0) (MX6_days kn s pa x0) := by
  unfold MX6_days MX6_errorDays
  obtain ⟨h1, h2, h3, h4, h5⟩ := h
  have hd := h4.2.1
  rcases rng x0 (lo := 1) (hi := 99) (by omega) (by omega) with ⟨m, v1, v2, rfl⟩ | q
  · have hin : MX6_in (nI m) 1 99 = some 1 := in_yes (k := m) (lo := 1) (hi := 99) v1 v2 (by omega)
    rw [hin, Option.bind_some, if_neg one_n0, M_day h2, Option.bind_some, nI_add]
    by_cases w : aG a 1 + m ≤ 9999
    · rw [if_pos (show nI (aG a 1 + m) ≤ 9999 from nI_le (b := 9999) w (by omega)), Option.bind_some, if_pos yy_0, hR, Option.bind_some, Option.bind_some, show (1 : Int32) = nI 1 from rfl, stM s _ (by decide), Option.bind_some, ldM _ (by decide), pk_us, Option.bind_some, nI_add]
      obtain ⟨g, p1, p2⟩ := C_days h1 h4 v1 v2 w
      refine Or.inr ⟨(aDays a m).1, (aDays a m).2, g, _, Nat.lt_of_le_of_lt w (by omega), p1, rfl, p2, ?_, ?_, days_inv h4 w, h5⟩
      · obtain ⟨⟨q1, q2, q3, q4⟩, q5, q6, q7⟩ := h2
        refine ⟨⟨?_, ?_, ?_, ?_⟩, fun i i1 i2 => ?_, fun r hr => ?_, fun r k e hr he => ?_⟩
        · rw [pk_us]; rfl
        · rw [pk_un (by omega)]; exact q2
        · rw [pk_un (by omega)]; exact q3
        · rw [pk_un (by omega)]; exact q4
        · rw [pk_un (by omega)]; exact q5 i i1 i2
        · rw [pk_un (by omega), pk_un (by omega), pk_un (by omega), pk_un (by omega), pk_un (by omega)]; exact q6 r hr
        · rw [pk_un (by omega), pk_un (by omega), pk_un (by omega)]; exact q7 r k e hr he
      · intro r c hr hc
        rw [pk_un (by omega), pk_un (by omega), pk_un (by omega)]
        exact h3 r c hr hc
    · rw [if_neg (show ¬ nI (aG a 1 + m) ≤ 9999 from not_le_of (b := 9999) (nI_lt (by omega) (by omega))), Option.bind_some, if_neg nn_3]
      refine Or.inl ⟨_, no_3, ?_, rfl⟩
      unfold MX3_endDays
      rw [if_neg (show ¬ nI m < 1 from (rng_no v1 v2 (by omega)).1), if_pos (show nI m ≤ 99 from nI_le (b := 99) v2 (by omega)), C_day h1, Option.bind_some, nI_add, if_neg (show ¬ nI (aG a 1 + m) ≤ 9999 from not_le_of (b := 9999) (nI_lt (by omega) (by omega)))]
  · have hin : MX6_in x0 1 99 = some 0 := in_no q
    rw [hin, Option.bind_some, if_pos rfl, Option.bind_some, if_neg nn_1]
    refine Or.inl ⟨_, no_1, ?_, rfl⟩
    unfold MX3_endDays
    by_cases q1 : x0 < 1
    · rw [if_pos q1]
    · rw [if_neg q1, if_neg (by
        rcases q with q | q
        · exact absurd q q1
        · exact not_le_of q)]
theorem go_begin (h : Two a f s) (hR : MX6_records kn s pa = some R) (x0 : Int32) : Opp kn s pa f R (MX3_beginAnew f x0) (MX6_begin kn s pa x0) := by
  unfold MX6_begin
  obtain ⟨h1, h2, h3, h4, h5⟩ := h
  rcases rng x0 (lo := 3) (hi := 9) (by omega) (by omega) with ⟨m, v1, v2, rfl⟩ | q
  · have hin : MX6_in (nI m) 3 9 = some 1 := in_yes (k := m) (lo := 3) (hi := 9) v1 v2 (by omega)
    rw [hin, Option.bind_some, if_neg one_n0, hR, Option.bind_some]
    obtain ⟨g, p1, p2⟩ := C_begin h1 h4 v1 v2
    obtain ⟨g', p3, p4, p5⟩ := M_begin h2 h4 v1 v2
    rw [p3, Option.bind_some]
    have hI := begin_inv h4 v1 v2
    have : (aBegin a m).1 ≤ 16 * m := by
      have e : (aBegin a m).1 = sm (fun r => (aM (aBegin a m).2 r).length) (aG (aBegin a m).2 0) := rfl
      have e0 : aG (aBegin a m).2 0 = m := by
        have := (rows_inv (fresh_inv a h4.2.1 h4.2.2.1 h4.2.2.2.1 ⟨v1, v2⟩) m (by rw [fr_0]; exact Nat.le_refl _)).2.1
        show aG (aLayRows (aFresh a m) m) 0 = m
        rw [this, fr_0]
      rw [e, e0]
      exact sm_ub m (fun k hk => inv_len hI (by rw [e0]; exact hk))
    exact Or.inr ⟨(aBegin a m).1, (aBegin a m).2, g, g', Nat.lt_of_le_of_lt this (by omega), p1, rfl, p2, p4, p5, hI, begin_wz h4 v1 v2⟩
  · have hin : MX6_in x0 3 9 = some 0 := in_no q
    rw [hin, Option.bind_some, if_pos rfl]
    refine Or.inl ⟨_, no_1, ?_, rfl⟩
    unfold MX3_beginAnew
    by_cases q1 : x0 < 3
    · rw [if_pos q1]
    · rw [if_neg q1, if_neg (by
        rcases q with q | q
        · exact absurd q q1
        · exact not_le_of q)]
theorem go_set (h : Two a f s) (hR : MX6_records kn s pa = some R) (x0 x1 : Int32) : Opp kn s pa f R (MX3_changeSetting f x0 x1) (MX6_set kn s pa x0 x1) := by
  unfold MX6_set
  obtain ⟨h1, h2, h3, h4, h5⟩ := h
  rcases rng x0 (lo := 0) (hi := 1) (by omega) (by omega) with ⟨w, v1, v2, rfl⟩ | q
  · have hin : MX6_in (nI w) 0 1 = some 1 := in_yes (k := w) (lo := 0) (hi := 1) v1 v2 (by omega)
    have hj : (if nI w = 0 then some (16 : Int32) else some 99) = some (nI (if w = 0 then 16 else 99)) := by
      by_cases y : w = 0
      · subst y; rfl
      · rw [if_neg (nI_ne0 (by omega) (by omega)), if_neg y]; rfl
    have hb : (if w = 0 then 16 else 99) ≤ 99 := by split <;> omega
    have hb1 : 1 ≤ (if w = 0 then 16 else 99) := by split <;> omega
    rw [hin, Option.bind_some, if_neg one_n0, hj, Option.bind_some]
    rcases rng x1 (lo := 1) (hi := if w = 0 then 16 else 99) hb1 (by omega) with ⟨x, u1, u2, rfl⟩ | q
    · have hin : MX6_in (nI x) 1 (nI (if w = 0 then 16 else 99)) = some 1 := in_yes (k := x) u1 u2 (by omega)
      rw [hin, Option.bind_some, if_neg one_n0, hR, Option.bind_some]
      obtain ⟨g, p1, p2⟩ := C_set h1 h4 v2 u1 u2
      obtain ⟨g', p3, p4, p5⟩ := M_set h2 h3 h4 v2 u1 u2
      obtain ⟨v20, k1, k2⟩ := bnd p3
      obtain ⟨g23, k3, k4⟩ := bnd k2
      obtain ⟨j27, k5, k6⟩ := bnd k4
      have k7 := Prod.mk.inj (Option.some.inj k6)
      rw [k1, Option.bind_some, k3, Option.bind_some, k5, Option.bind_some, k7.1, k7.2]
      have hle : (aSet a w x).1 ≤ 99 := by
        show aG a (2 + w) ≤ 99
        have i1 := h4.2.2.1
        have i2 := h4.2.2.2.1
        rcases (show w = 0 ∨ w = 1 by omega) with rfl | rfl
        · exact Nat.le_trans i1.2 (by decide)
        · exact i2.2
      exact Or.inr ⟨(aSet a w x).1, (aSet a w x).2, g, g', Nat.lt_of_le_of_lt hle (by omega), p1, rfl, p2, p4, p5, set_inv h4 v2 u1 u2, set_wz h5⟩
    · have hin : MX6_in x1 1 (nI (if w = 0 then 16 else 99)) = some 0 := in_no q
      rw [hin, Option.bind_some, if_pos rfl]
      refine Or.inl ⟨_, no_1, ?_, rfl⟩
      unfold MX3_changeSetting
      rw [if_neg (show ¬ nI w < 0 from (rng_no v1 v2 (by omega)).1), if_neg (show ¬ 1 < nI w from (rng_no v1 v2 (by omega)).2)]
      by_cases q1 : x1 < 1
      · rw [if_pos q1]
      · rw [if_neg q1, hj, Option.bind_some, if_neg (by
          rcases q with q | q
          · exact absurd q q1
          · exact not_le_of q)]
  · have hin : MX6_in x0 0 1 = some 0 := in_no q
    rw [hin, Option.bind_some, if_pos rfl]
    refine Or.inl ⟨_, no_1, ?_, rfl⟩
    unfold MX3_changeSetting
    by_cases q1 : x0 < 0
    · rw [if_pos q1]
    · rw [if_neg q1, if_pos (by
        rcases q with q | q
        · exact absurd q q1
        · exact q)]
end BOTH
