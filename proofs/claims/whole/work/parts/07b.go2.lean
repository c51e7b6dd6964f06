/-! each change that an order can bring: the error, and the change -/
def Opp2 (f : Nat → Int32) (C : Option (Int32 × (Nat → Int32))) (E : Option Int32) (G : Option (Nat → Int32)) : Prop :=
  (∃ x, x < 0 ∧ C = some (x, f) ∧ E = some x) ∨
  (∃ n a' g g', n < 2 ^ 31 ∧ C = some (nI n, g) ∧ E = some 0 ∧ G = some g' ∧ Two a' g g')
section TWICE
variable {a : Abs} {f s : Nat → Int32}
theorem go2_write (h : Two a f s) (x0 x1 x2 : Int32) : Opp2 f (MX3_writeCell f x0 x1 x2) (MX6_errorWrite s x0 x1 x2) ((MX6_goWrite s x0 x1 x2).bind fun v => some v.2) := by
  unfold MX6_errorWrite
  rcases two_row h x0 with ⟨r, hr, rfl, e1, e2⟩ | ⟨e1, e2⟩
  · rcases two_cell x1 with ⟨c, hc, rfl, e3, e4⟩ | ⟨e3, e4⟩
    · rw [e2, Option.bind_some, if_neg one_n0, e4, Option.bind_some, if_neg one_n0]
      obtain ⟨h1, h2, h3, h4, h5⟩ := h
      rcases rng x2 (lo := 0) (hi := 999) (by omega) (by omega) with ⟨v, v1, v2, rfl⟩ | q
      · have hin := in_yes (k := v) v1 v2 (by omega)
        rw [show (0 : Int32) = nI 0 from rfl, show (999 : Int32) = nI 999 from rfl, hin, Option.bind_some, if_neg (show ¬ (1 : Int32) = nI 0 by decide)]
        by_cases w : aF a 1 r = 1
        · rw [M_lives h2 h4 hr, Option.bind_some, if_pos w, if_neg (show ¬ (1 : Int32) = nI 0 by decide)]
          obtain ⟨g, p1, p2⟩ := C_write h1 h4 hr hc v2 w
          obtain ⟨g', p3, p4, p5⟩ := M_write h2 h3 h4 hr hc v2 w
          have := lay1_le (sC (sW (sV a r c (v + 1)) r c 0) 4 (aC a 4 + 1)) r c (aHold a r c)
          exact Or.inr ⟨(aWrite a r c v).1, (aWrite a r c v).2, g, g', Nat.lt_of_le_of_lt this (by omega), p1, rfl, by rw [p3, Option.bind_some], p2, p4, p5, write_inv h4 hr hc v2, write_wz h5 r c v⟩
        · rw [M_lives h2 h4 hr, Option.bind_some, lv_no w, if_pos (show (0 : Int32) = nI 0 from rfl)]
          refine Or.inl ⟨_, no_2, ?_, rfl⟩
          unfold MX3_writeCell
          rw [e1, Option.bind_some, if_neg one_n0, e3, Option.bind_some, if_neg one_n0, if_neg (show ¬ nI v < 0 from (rng_no v1 v2 (by omega)).1), if_pos (show nI v ≤ 999 from nI_le (b := 999) v2 (by omega)), C_livesb h1 h4 hr, Option.bind_some, lv_no w, if_pos rfl]
      · have hin := in_no q
        rw [show (0 : Int32) = nI 0 from rfl, show (999 : Int32) = nI 999 from rfl, hin, Option.bind_some, if_pos (show (0 : Int32) = nI 0 from rfl)]
        refine Or.inl ⟨_, no_1, ?_, rfl⟩
        unfold MX3_writeCell
        rw [e1, Option.bind_some, if_neg one_n0, e3, Option.bind_some, if_neg one_n0]
        by_cases q1 : x2 < 0
        · rw [if_pos q1]
        · rw [if_neg q1, if_neg (by
            rcases q with q | q
            · exact absurd q q1
            · intro w
              rw [Int32.le_iff_toInt_le] at w
              rw [Int32.lt_iff_toInt_lt] at q
              exact absurd w (show ¬ x2.toInt ≤ (999 : Int32).toInt from Int.not_le.mpr q))]
    · rw [e2, Option.bind_some, if_neg one_n0, e4, Option.bind_some, if_pos rfl]
      refine Or.inl ⟨_, no_1, ?_, rfl⟩
      unfold MX3_writeCell
      rw [e1, Option.bind_some, if_neg one_n0, e3, Option.bind_some, if_pos rfl]
  · rw [e2, Option.bind_some, if_pos rfl]
    refine Or.inl ⟨_, no_1, ?_, rfl⟩
    unfold MX3_writeCell
    rw [e1, Option.bind_some, if_pos rfl]
theorem go2_lose (h : Two a f s) (x0 : Int32) : Opp2 f (MX3_loseRow f x0) (MX6_errorOf s x0 1) ((MX6_goLose s x0).bind fun v => some v.2) := by
  unfold MX6_errorOf
  rcases two_row h x0 with ⟨r, hr, rfl, e1, e2⟩ | ⟨e1, e2⟩
  · obtain ⟨h1, h2, h3, h4, h5⟩ := h
    rw [e2, Option.bind_some, if_neg one_n0, M_lives h2 h4 hr, Option.bind_some]
    by_cases w : aF a 1 r = 1
    · rw [if_pos w, if_pos rfl]
      obtain ⟨g, p1, p2⟩ := C_lose h1 h4 hr w
      obtain ⟨g', p3, p4, p5⟩ := M_lose h2 h3 h4 hr w
      have := aBack_le a r
      exact Or.inr ⟨(aLose a r).1, (aLose a r).2, g, g', Nat.lt_of_le_of_lt this (by omega), p1, rfl, by rw [p3, Option.bind_some], p2, p4, p5, lose_inv h4 r, lose_wz h5 r⟩
    · rw [lv_no w, if_neg (show ¬ (0 : Int32) = 1 by decide)]
      refine Or.inl ⟨_, no_2, ?_, rfl⟩
      unfold MX3_loseRow
      rw [e1, Option.bind_some, if_neg one_n0, C_livesb h1 h4 hr, Option.bind_some, lv_no w, if_pos rfl]
  · rw [e2, Option.bind_some, if_pos rfl]
    refine Or.inl ⟨_, no_1, ?_, rfl⟩
    unfold MX3_loseRow
    rw [e1, Option.bind_some, if_pos rfl]
theorem go2_mend (h : Two a f s) (x0 : Int32) : Opp2 f (MX3_mendRow f x0) (MX6_errorOf s x0 0) ((MX6_goMend s x0).bind fun v => some v.2) := by
  unfold MX6_errorOf
  rcases two_row h x0 with ⟨r, hr, rfl, e1, e2⟩ | ⟨e1, e2⟩
  · obtain ⟨h1, h2, h3, h4, h5⟩ := h
    rw [e2, Option.bind_some, if_neg one_n0, M_lives h2 h4 hr, Option.bind_some]
    by_cases w : aF a 1 r = 1
    · rw [if_pos w, if_neg one_n0]
      refine Or.inl ⟨_, no_2, ?_, rfl⟩
      unfold MX3_mendRow
      rw [e1, Option.bind_some, if_neg one_n0, C_livesb h1 h4 hr, Option.bind_some, if_pos w, if_neg one_n0]
    · have w0 : aF a 1 r = 0 := by
        have := (h4.2.2.2.2.1 r hr).2.2.2.2.1
        omega
      rw [lv_no w, if_pos rfl]
      obtain ⟨g, p1, p2⟩ := C_mend h1 h4 hr w0
      obtain ⟨g', p3, p4, p5⟩ := M_mend h2 h3 h4 hr w0
      have := aBack_le a r
      exact Or.inr ⟨(aMend a r).1, (aMend a r).2, g, g', Nat.lt_of_le_of_lt this (by omega), p1, rfl, by rw [p3, Option.bind_some], p2, p4, p5, mend_inv h4 hr, mend_wz h5 r⟩
  · rw [e2, Option.bind_some, if_pos rfl]
    refine Or.inl ⟨_, no_1, ?_, rfl⟩
    unfold MX3_mendRow
    rw [e1, Option.bind_some, if_pos rfl]
theorem go2_lay (h : Two a f s) (x0 : Int32) : Opp2 f (MX3_layAnew f x0) (MX6_errorOf s x0 1) ((MX6_laysRow s x0).bind fun v => some v.2) := by
  unfold MX6_errorOf
  rcases two_row h x0 with ⟨r, hr, rfl, e1, e2⟩ | ⟨e1, e2⟩
  · obtain ⟨h1, h2, h3, h4, h5⟩ := h
    rw [e2, Option.bind_some, if_neg one_n0, M_lives h2 h4 hr, Option.bind_some]
    by_cases w : aF a 1 r = 1
    · rw [if_pos w, if_pos rfl]
      obtain ⟨g, p1, p2⟩ := C_layAnew h1 h4 hr w
      obtain ⟨g', p3, p4, p5⟩ := M_laysRow h2 h3 h4 hr
      have := layR_le a r
      exact Or.inr ⟨(aLayRow a r).1, (aLayRow a r).2, g, g', Nat.lt_of_le_of_lt this (by omega), p1, rfl, by rw [p3, Option.bind_some], p2, p4, p5, layR_inv h4 hr, Wz_layR h5 r⟩
    · rw [lv_no w, if_neg (show ¬ (0 : Int32) = 1 by decide)]
      refine Or.inl ⟨_, no_2, ?_, rfl⟩
      unfold MX3_layAnew
      rw [e1, Option.bind_some, if_neg one_n0, C_livesb h1 h4 hr, Option.bind_some, lv_no w, if_pos rfl]
  · rw [e2, Option.bind_some, if_pos rfl]
    refine Or.inl ⟨_, no_1, ?_, rfl⟩
    unfold MX3_layAnew
    rw [e1, Option.bind_some, if_pos rfl]
theorem go2_swap (h : Two a f s) (x0 x1 : Int32) : Opp2 f (MX3_swapRows f x0 x1) (MX6_errorSwap s x0 x1) ((MX6_goSwap s x0 x1).bind fun v => some v.2) := by
  unfold MX6_errorSwap
  have hh := two_row h x1
  rcases two_row h x0 with ⟨x, hx, rfl, e1, e2⟩ | ⟨e1, e2⟩
  · rw [e2, Option.bind_some, if_neg one_n0]
    rcases hh with ⟨y, hy, rfl, e3, e4⟩ | ⟨e3, e4⟩
    · obtain ⟨h1, h2, h3, h4, h5⟩ := h
      have hn := h4.1
      rw [e4, Option.bind_some, if_neg one_n0]
      by_cases q : nI x = nI y
      · rw [if_pos q]
        refine Or.inl ⟨_, no_1, ?_, rfl⟩
        unfold MX3_swapRows
        rw [e1, Option.bind_some, if_neg one_n0, e3, Option.bind_some, if_neg one_n0, if_pos q]
      · have hxy : ¬ x = y := fun z => q (by rw [z])
        rw [if_neg q, M_lives h2 h4 hx, Option.bind_some, M_lives h2 h4 hy]
        by_cases w : aF a 1 x = 1
        · rw [if_pos w, if_neg one_n0, Option.bind_some]
          by_cases w2 : aF a 1 y = 1
          · rw [if_pos w2, if_neg one_n0]
            obtain ⟨g, p1, p2⟩ := C_swap h1 h4 hx hy hxy w w2
            obtain ⟨g', p3, p4, p5⟩ := M_swap h2 h3 h4 hx hy
            have := far_le h4 hx hy
            exact Or.inr ⟨(aSwap a x y).1, (aSwap a x y).2, g, g', Nat.lt_of_le_of_lt this (by omega), p1, rfl, by rw [p3, Option.bind_some], p2, p4, p5, swap_inv h4 hx hy hxy, swap_wz h5 x y⟩
          · rw [lv_no w2, if_pos rfl]
            refine Or.inl ⟨_, no_2, ?_, rfl⟩
            unfold MX3_swapRows
            rw [e1, Option.bind_some, if_neg one_n0, e3, Option.bind_some, if_neg one_n0, if_neg q, C_livesb h1 h4 hx, Option.bind_some, if_pos w, if_neg one_n0, C_livesb h1 h4 hy, Option.bind_some, lv_no w2, if_pos rfl]
        · rw [lv_no w, if_pos rfl]
          refine Or.inl ⟨_, no_2, ?_, rfl⟩
          unfold MX3_swapRows
          rw [e1, Option.bind_some, if_neg one_n0, e3, Option.bind_some, if_neg one_n0, if_neg q, C_livesb h1 h4 hx, Option.bind_some, lv_no w, if_pos rfl]
    · rw [e4, Option.bind_some, if_pos rfl]
      refine Or.inl ⟨_, no_1, ?_, rfl⟩
      unfold MX3_swapRows
      rw [e1, Option.bind_some, if_neg one_n0, e3, Option.bind_some, if_pos rfl]
  · rw [e2, Option.bind_some, if_pos rfl]
    refine Or.inl ⟨_, no_1, ?_, rfl⟩
    unfold MX3_swapRows
    rw [e1, Option.bind_some, if_pos rfl]
theorem go2_days (h : Two a f s) (x0 : Int32) : Opp2 f (MX3_endDays f x0) (MX6_errorDays s x0) ((ldA 703 s 1).bind fun v4 => (stA 703 s 1 (v4 + x0)).bind fun g10 => some g10) := by
  unfold MX6_errorDays
  obtain ⟨h1, h2, h3, h4, h5⟩ := h
  have hd := h4.2.1
  rcases rng x0 (lo := 1) (hi := 99) (by omega) (by omega) with ⟨m, v1, v2, rfl⟩ | q
  · have hin : MX6_in (nI m) 1 99 = some 1 := in_yes (k := m) (lo := 1) (hi := 99) v1 v2 (by omega)
    rw [hin, Option.bind_some, if_neg one_n0, M_day h2, Option.bind_some, nI_add]
    by_cases w : aG a 1 + m ≤ 9999
    · rw [if_pos (show nI (aG a 1 + m) ≤ 9999 from nI_le (b := 9999) w (by omega)), Option.bind_some, show (1 : Int32) = nI 1 from rfl, stM s _ (by decide), Option.bind_some, nI_add]
      obtain ⟨g, p1, p2⟩ := C_days h1 h4 v1 v2 w
      refine Or.inr ⟨(aDays a m).1, (aDays a m).2, g, _, Nat.lt_of_le_of_lt w (by omega), p1, rfl, rfl, p2, ?_, ?_, days_inv h4 w, h5⟩
      · obtain ⟨⟨q1, q2, q3, q4⟩, q5, q6, q7⟩ := h2
        refine ⟨⟨?_, ?_, ?_, ?_⟩, fun i i1 i2 => ?_, fun r hr => ?_, fun r k e hr he => ?_⟩
        · rw [pk_us]; rfl
        · rw [pk_un (by omega)]; exact q2
        · rw [pk_un (by omega)]; exact q3
        · rw [pk_un (by omega)]; exact q4
        · rw [pk_un (by omega)]; exact q5 i i1 i2
        · rw [pk_un (by omega), pk_un (by omega), pk_un (by omega), pk_un (by omega), pk_un (by omega)]; exact q6 r hr
        · rw [pk_un (by omega), pk_un (by omega), pk_un (by omega)]; exact q7 r k e hr he
      · intro r c hr hc
        rw [pk_un (by omega), pk_un (by omega), pk_un (by omega)]
        exact h3 r c hr hc
    · rw [if_neg (show ¬ nI (aG a 1 + m) ≤ 9999 from not_le_of (b := 9999) (nI_lt (by omega) (by omega)))]
      refine Or.inl ⟨_, no_3, ?_, rfl⟩
      unfold MX3_endDays
      rw [if_neg (show ¬ nI m < 1 from (rng_no v1 v2 (by omega)).1), if_pos (show nI m ≤ 99 from nI_le (b := 99) v2 (by omega)), C_day h1, Option.bind_some, nI_add, if_neg (show ¬ nI (aG a 1 + m) ≤ 9999 from not_le_of (b := 9999) (nI_lt (by omega) (by omega)))]
  · have hin : MX6_in x0 1 99 = some 0 := in_no q
    rw [hin, Option.bind_some, if_pos rfl]
    refine Or.inl ⟨_, no_1, ?_, rfl⟩
    unfold MX3_endDays
    by_cases q1 : x0 < 1
    · rw [if_pos q1]
    · rw [if_neg q1, if_neg (by
        rcases q with q | q
        · exact absurd q q1
        · exact not_le_of q)]
end TWICE
