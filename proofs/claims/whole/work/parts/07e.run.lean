/-! all orders of the text: both sides do them alike -/
theorem bind_id {α : Type} (o : Option α) : (o.bind fun v => some v) = o := by cases o <;> rfl
theorem cnt_inl {α β : Type} (K : α → Option β) (x : α) : cnt K (.inl x) = K x := rfl
theorem e114 : @SX6_takesOrder_114a = @SX6_takesOrder_114 := rfl
theorem mEnd_bind {β : Type} (n : Nat) (tx : Nat → Int32) (o : Option (Int32 × Int32 × (Nat → Int32))) (K : Int32 × Int32 × (Nat → Int32) → β) : (o.bind fun j18 => (MX6_here (nI n) j18.1 tx).bind fun v27 => (((if v27 = 59 then some 1 else some 0) : Option Int32)).bind fun j30 => (MX6_takes j18.1 j18.2.1 j30).bind fun v34 => some (K (v34.1, v34.2, j18.2.2))) = (mEnd n tx o).bind fun r => some (K r) := by
  unfold mEnd
  cases o with
  | none => rfl
  | some j =>
    rw [Option.bind_some, Option.bind_some]
    cases MX6_here (nI n) j.1 tx with
    | none => rfl
    | some v =>
      rw [Option.bind_some, Option.bind_some]
      cases (if v = 59 then some 1 else some 0 : Option Int32) with
      | none => rfl
      | some w =>
        rw [Option.bind_some, Option.bind_some]
        cases MX6_takes j.1 j.2.1 w with
        | none => rfl
        | some z => rfl
theorem num_of (x : Int32) : MX2_numbersOf x = some (nI (mOf x)) := by
  unfold MX2_numbersOf mOf
  by_cases h1 : x = 97
  · subst h1; rfl
  by_cases h2 : x = 100
  · subst h2; rfl
  by_cases h3 : x = 108
  · subst h3; rfl
  by_cases h4 : x = 109
  · subst h4; rfl
  by_cases h5 : x = 115
  · subst h5; rfl
  by_cases h6 : x = 119
  · subst h6; rfl
  rw [if_neg h1, if_neg h2, if_neg h3, if_neg h4, if_neg h5, if_neg h6, if_neg h6, if_neg h5, if_neg (fun z => z.elim h1 (fun z => z.elim h2 (fun z => z.elim h3 h4)))]
  rfl
theorem m_cases {x : Int32} (h : 0 < mOf x) : x = 97 ∨ x = 100 ∨ x = 108 ∨ x = 109 ∨ x = 115 ∨ x = 119 := by
  unfold mOf at h
  by_cases h6 : x = 119
  · exact Or.inr (Or.inr (Or.inr (Or.inr (Or.inr h6))))
  · rw [if_neg h6] at h
    by_cases h5 : x = 115
    · exact Or.inr (Or.inr (Or.inr (Or.inr (Or.inl h5))))
    · rw [if_neg h5] at h
      by_cases h4 : x = 97 ∨ x = 100 ∨ x = 108 ∨ x = 109
      · rcases h4 with z | z | z | z
        · exact Or.inl z
        · exact Or.inr (Or.inl z)
        · exact Or.inr (Or.inr (Or.inl z))
        · exact Or.inr (Or.inr (Or.inr (Or.inl z)))
      · rw [if_neg h4] at h
        exact absurd h (Nat.lt_irrefl 0)
theorem m_none {x : Int32} (h : mOf x = 0) : ¬ x = 119 ∧ ¬ x = 108 ∧ ¬ x = 109 ∧ ¬ x = 115 ∧ ¬ x = 97 ∧ ¬ x = 100 := by
  refine ⟨?_, ?_, ?_, ?_, ?_, ?_⟩
  · rintro rfl; exact absurd h (by decide)
  · rintro rfl; exact absurd h (by decide)
  · rintro rfl; exact absurd h (by decide)
  · rintro rfl; exact absurd h (by decide)
  · rintro rfl; exact absurd h (by decide)
  · rintro rfl; exact absurd h (by decide)
theorem m_le (x : Int32) : mOf x ≤ 3 := by
  unfold mOf
  split
  · exact Nat.le_refl _
  · split
    · decide
    · split
      · decide
      · decide
theorem val_in {β : Type} {x : Int32} (h : 0 < mOf x) (X : Option (Unit ⊕ β)) : (if x = 119 then some (.inl ()) else (if x = 108 then some (.inl ()) else (if x = 109 then some (.inl ()) else (if x = 115 then some (.inl ()) else (if x = 97 then some (.inl ()) else (if x = 100 then some (.inl ()) else X)))))) = some (.inl ()) := by
  rcases m_cases h with rfl | rfl | rfl | rfl | rfl | rfl <;> rfl
theorem val_m {x : Int32} (h : 0 < mOf x) : (if x = 119 then some 3 else (if x = 115 then some 2 else some 1) : Option Int32) = some (nI (mOf x)) := by
  rcases m_cases h with rfl | rfl | rfl | rfl | rfl | rfl <;> rfl
section RUN
variable {n : Nat} {sg tx : Nat → Int32}
theorem ord_both (hn : n ≤ 60) (ht : ∀ k, k < n → sg k = tx k) {p : Nat} (hp : p < 2 ^ 17) (nb : Nat → Int32) (bg fm lt : Int32) (tl : Nat → Int32) : ∃ z w q, MX2_readOrder (nI n) (nI p) sg nb = some z ∧ MX6_takesOrder (nI n) (nI p) bg fm lt tx tl = some w ∧ z.2.1 = nI q ∧ w.1 = nI q ∧ p ≤ q ∧ q ≤ p + 20 ∧ w.2.1 = nI p ∧ w.2.2.2.1 = tAt n sg p ∧ ((z.1 = 0 ∧ w.2.2.1 = 0) ∨ (z.1 = 1 ∧ w.2.2.1 = 1 ∧ p < q ∧ 0 < mOf (tAt n sg p) ∧ ∃ L : List Nat, L.length = mOf (tAt n sg p) ∧ agL L z.2.2 ∧ agL L w.2.2.2.2)) := by
  unfold MX2_readOrder MX6_takesOrder
  have hm3 := m_le (tAt n sg p)
  rw [C_sign hn (by omega), Option.bind_some, num_of, Option.bind_some, M_here hn (by omega) ht, Option.bind_some, e114, nI_1]
  rcases Nat.eq_zero_or_pos (mOf (tAt n sg p)) with m0 | m0
  · obtain ⟨n1, n2, n3, n4, n5, n6⟩ := m_none m0
    rw [m0, if_pos (show nI 0 = (0 : Int32) from rfl), if_neg n1, if_neg n2, if_neg n3, if_neg n4, if_neg n5, if_neg n6, takes_0, Option.bind_some, if_neg n1, if_neg n4, Option.bind_some]
    dsimp only
    rw [mEnd_bind n tx _ (fun r => (Sum.inr (r.1, nI p, r.2.1, tAt n sg p, r.2.2) : Unit ⊕ (Int32 × Int32 × Int32 × Int32 × (Nat → Int32))))]
    obtain ⟨g, hg⟩ := M_dead (sg := sg) hn ht 1 (by decide) (u := p) (by omega) 1 0 tl FU rfl (FU_lt (by decide))
    rw [show mEnd n tx (itr (SX6_takesOrder_114 1 (nI n) tx) FU (0, nI p, 0, tl)) = some (nI p, 0, g) from hg, Option.bind_some, Option.bind_some]
    exact ⟨_, _, p, rfl, rfl, rfl, rfl, Nat.le_refl _, by omega, rfl, rfl, Or.inl ⟨rfl, rfl⟩⟩
  · rw [if_neg (nI_ne0 m0 (by omega)), val_in m0, Option.bind_some]
    have hle := rdN_le (tAt n sg) (mOf (tAt n sg p)) (p + 1) []
    obtain ⟨z, z1, z2⟩ := C_rest hn (mOf (tAt n sg p)) hm3 (mOf (tAt n sg p)) 0 (p + 1) [] nb FU (by omega) rfl (by omega) (FU_lt (by omega)) (fun i hi => absurd hi (Nat.not_lt_zero i))
    have hM := M_first (sg := sg) hn ht (mOf (tAt n sg p)) hm3 m0 (q := p + 1) (by omega) tl
    have hE : (MX6_takes (nI p) 1 1).bind (fun v10 => (((if tAt n sg p = 119 then some 3 else (if tAt n sg p = 115 then some 2 else some 1)) : Option Int32)).bind fun j13 => (itr (SX6_takesOrder_114 j13 (nI n) tx) FU (0, v10.1, v10.2, tl)).bind fun j18 => (MX6_here (nI n) j18.1 tx).bind fun v27 => (((if v27 = 59 then some 1 else some 0) : Option Int32)).bind fun j30 => (MX6_takes j18.1 j18.2.1 j30).bind fun v34 => some (v34.1, nI p, v34.2, tAt n sg p, j18.2.2)) = (mEnd n tx (itr (SX6_takesOrder_114 (nI (mOf (tAt n sg p))) (nI n) tx) FU (0, nI (p + 1), 1, tl))).bind fun r => some (r.1, nI p, r.2.1, tAt n sg p, r.2.2) := by
      rw [takes_1, Option.bind_some, val_m m0, Option.bind_some]
      exact mEnd_bind n tx _ (fun r => (r.1, nI p, r.2.1, tAt n sg p, r.2.2))
    rw [show itr (SX2_readOrder_30 (nI (mOf (tAt n sg p))) (nI n) sg) FU (0, nI (p + 1), nb) = some z from z1, Option.bind_some]
    rw [cnt_inl, hE]
    rcases z2 with ⟨b1', nb', rfl, ag⟩ | ⟨b1', nb', rfl⟩
    · rcases hM with ⟨_, g, g1, g2⟩ | ⟨b2', _⟩
      · rw [g1, Option.bind_some]
        refine ⟨_, _, (rdN (tAt n sg) (mOf (tAt n sg p)) (p + 1) []).2.1, rfl, rfl, rfl, rfl, by omega, by omega, rfl, rfl, Or.inr ⟨rfl, rfl, by omega, m0, _, ?_, ag, g2⟩⟩
        have := hle.2.2 b1'
        rw [List.length_nil] at this
        omega
      · rw [b1'] at b2'
        cases b2'
    · rcases hM with ⟨b2', _⟩ | ⟨_, g, g1⟩
      · rw [b1'] at b2'
        cases b2'
      · rw [g1, Option.bind_some]
        exact ⟨_, _, (rdN (tAt n sg) (mOf (tAt n sg p)) (p + 1) []).2.1, rfl, rfl, rfl, rfl, by omega, by omega, rfl, rfl, Or.inl ⟨rfl, rfl⟩⟩
def swC (x : Int32) (nb f : Nat → Int32) : Option (Int32 × (Nat → Int32)) := if x = 97 then (ldA 3 nb 0).bind fun v => MX3_layAnew f v else if x = 108 then (ldA 3 nb 0).bind fun v => MX3_loseRow f v else if x = 109 then (ldA 3 nb 0).bind fun v => MX3_mendRow f v else if x = 115 then (ldA 3 nb 0).bind fun v => (ldA 3 nb 1).bind fun w => MX3_swapRows f v w else if x = 119 then (ldA 3 nb 0).bind fun v => (ldA 3 nb 1).bind fun w => (ldA 3 nb 2).bind fun u => MX3_writeCell f v w u else (ldA 3 nb 0).bind fun v => MX3_endDays f v
theorem ld3 (g : Nat → Int32) {i : Nat} (h : i < 3) : ldA 3 g (nI i) = some (g i) := ldA_nI h (by decide)
theorem do_both {a : Abs} {f s nb tl : Nat → Int32} (h : Two a f s) {x : Int32} (hx : 0 < mOf x) {L : List Nat} (hL : L.length = mOf x) (h1 : agL L nb) (h2 : agL L tl) : Opp2 f (swC x nb f) (MX6_errorOfOrder x s tl) (MX6_doesOrder x s tl) := by
  have e : ∀ i, i < mOf x → nb i = tl i := fun i hi => (h1 i (by omega)).trans (h2 i (by omega)).symm
  have n0 := ld3 nb (i := 0) (by decide)
  have n1 := ld3 nb (i := 1) (by decide)
  have n2 := ld3 nb (i := 2) (by decide)
  have t0 := ld3 tl (i := 0) (by decide)
  have t1 := ld3 tl (i := 1) (by decide)
  have t2 := ld3 tl (i := 2) (by decide)
  have x0 := e 0 hx
  rw [x0] at n0
  unfold swC MX6_errorOfOrder MX6_doesOrder
  rcases m_cases hx with rfl | rfl | rfl | rfl | rfl | rfl
  · rw [if_pos rfl, if_neg (show ¬ (97 : Int32) = 100 by decide), if_neg (show ¬ (97 : Int32) = 115 by decide), if_neg (show ¬ (97 : Int32) = 119 by decide), if_neg (show ¬ (97 : Int32) = 109 by decide), if_neg (show ¬ (97 : Int32) = 100 by decide), if_neg (show ¬ (97 : Int32) = 108 by decide), if_neg (show ¬ (97 : Int32) = 109 by decide), if_neg (show ¬ (97 : Int32) = 115 by decide), if_neg (show ¬ (97 : Int32) = 119 by decide), show ldA 3 nb 0 = some (tl 0) from n0, show ldA 3 tl 0 = some (tl 0) from t0, Option.bind_some, Option.bind_some, Option.bind_some, Option.bind_some, bind_id]
    exact go2_lay h (tl 0)
  · rw [if_neg (show ¬ (100 : Int32) = 97 by decide), if_neg (show ¬ (100 : Int32) = 108 by decide), if_neg (show ¬ (100 : Int32) = 109 by decide), if_neg (show ¬ (100 : Int32) = 115 by decide), if_neg (show ¬ (100 : Int32) = 119 by decide), if_pos rfl, if_pos rfl, show ldA 3 nb 0 = some (tl 0) from n0, show ldA 3 tl 0 = some (tl 0) from t0, Option.bind_some, Option.bind_some, bind_id]
    exact go2_days h (tl 0)
  · rw [if_neg (show ¬ (108 : Int32) = 97 by decide), if_pos rfl, if_neg (show ¬ (108 : Int32) = 100 by decide), if_neg (show ¬ (108 : Int32) = 115 by decide), if_neg (show ¬ (108 : Int32) = 119 by decide), if_neg (show ¬ (108 : Int32) = 109 by decide), if_neg (show ¬ (108 : Int32) = 100 by decide), if_pos rfl, show ldA 3 nb 0 = some (tl 0) from n0, show ldA 3 tl 0 = some (tl 0) from t0, Option.bind_some, Option.bind_some, Option.bind_some, Option.bind_some, bind_id]
    exact go2_lose h (tl 0)
  · rw [if_neg (show ¬ (109 : Int32) = 97 by decide), if_neg (show ¬ (109 : Int32) = 108 by decide), if_pos rfl, if_neg (show ¬ (109 : Int32) = 100 by decide), if_neg (show ¬ (109 : Int32) = 115 by decide), if_neg (show ¬ (109 : Int32) = 119 by decide), if_pos rfl, if_neg (show ¬ (109 : Int32) = 100 by decide), if_neg (show ¬ (109 : Int32) = 108 by decide), if_pos rfl, show ldA 3 nb 0 = some (tl 0) from n0, show ldA 3 tl 0 = some (tl 0) from t0, Option.bind_some, Option.bind_some, Option.bind_some, Option.bind_some, bind_id]
    exact go2_mend h (tl 0)
  · have x1 := e 1 (by decide)
    rw [x1] at n1
    rw [if_neg (show ¬ (115 : Int32) = 97 by decide), if_neg (show ¬ (115 : Int32) = 108 by decide), if_neg (show ¬ (115 : Int32) = 109 by decide), if_pos rfl, if_neg (show ¬ (115 : Int32) = 100 by decide), if_pos rfl, if_neg (show ¬ (115 : Int32) = 100 by decide), if_neg (show ¬ (115 : Int32) = 108 by decide), if_neg (show ¬ (115 : Int32) = 109 by decide), if_pos rfl, show ldA 3 nb 0 = some (tl 0) from n0, show ldA 3 tl 0 = some (tl 0) from t0, show ldA 3 nb 1 = some (tl 1) from n1, show ldA 3 tl 1 = some (tl 1) from t1, Option.bind_some, Option.bind_some, Option.bind_some, Option.bind_some, Option.bind_some, Option.bind_some, bind_id]
    exact go2_swap h (tl 0) (tl 1)
  · have x1 := e 1 (by decide)
    have x2 := e 2 (by decide)
    rw [x1] at n1
    rw [x2] at n2
    rw [if_neg (show ¬ (119 : Int32) = 97 by decide), if_neg (show ¬ (119 : Int32) = 108 by decide), if_neg (show ¬ (119 : Int32) = 109 by decide), if_neg (show ¬ (119 : Int32) = 115 by decide), if_pos rfl, if_neg (show ¬ (119 : Int32) = 100 by decide), if_neg (show ¬ (119 : Int32) = 115 by decide), if_pos rfl, if_neg (show ¬ (119 : Int32) = 100 by decide), if_neg (show ¬ (119 : Int32) = 108 by decide), if_neg (show ¬ (119 : Int32) = 109 by decide), if_neg (show ¬ (119 : Int32) = 115 by decide), if_pos rfl, show ldA 3 nb 0 = some (tl 0) from n0, show ldA 3 tl 0 = some (tl 0) from t0, show ldA 3 nb 1 = some (tl 1) from n1, show ldA 3 tl 1 = some (tl 1) from t1, show ldA 3 nb 2 = some (tl 2) from n2, show ldA 3 tl 2 = some (tl 2) from t2, Option.bind_some, Option.bind_some, Option.bind_some, Option.bind_some, Option.bind_some, Option.bind_some, Option.bind_some, Option.bind_some, Option.bind_some, bind_id]
    exact go2_write h (tl 0) (tl 1) (tl 2)
end RUN
