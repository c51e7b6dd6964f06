/-! acts: all of them -/
section ACTS2
variable {a : Abs} {f : Nat → Int32} {io im : Int32} {gs : Nat → Nat → Int32} {H : List Abs} {N n0 : Nat}
theorem who_is (h : RepC a f) (hi : aInv a) {r : Nat} (hr : r < aG a 0 + 1) : ∃ j10 j14, ((if nI r = nI (aG a 0) then some 1 else some 0) : Option Int32) = some j10 ∧ ((if j10 = 0 then (MX5_row f (nI r) 1).bind fun v514 => (if v514 = 1 then some 1 else some 0) else some 0) : Option Int32) = some j14 ∧ Who a r j10 j14 := by
  have hn := hi.1
  by_cases q : r = aG a 0
  · exact ⟨1, 0, if_pos (by rw [q]), if_neg one_n0, Or.inl ⟨q, rfl, rfl⟩⟩
  · have hr' : r < aG a 0 := by omega
    have e : ¬ nI r = nI (aG a 0) := fun z => q ((nI_eq (by omega) (by omega)).mp z)
    rcases inv_live hi hr' with l | l
    · refine ⟨0, 0, if_neg e, ?_, Or.inr (Or.inl ⟨hr', l, rfl, rfl⟩)⟩
      rw [if_pos rfl, rq1 h hi hr', Option.bind_some, l, if_neg (show ¬ nI 0 = 1 by decide)]
    · refine ⟨0, 1, if_neg e, ?_, Or.inr (Or.inr ⟨hr', l, rfl, rfl⟩)⟩
      rw [if_pos rfl, rq1 h hi hr', Option.bind_some, l, if_pos (show nI 1 = 1 from rfl)]
theorem w_ge {b w : Nat} (h : b ≤ w) (hw : w < 24) : nI b ≤ nI w := nI_le h (by omega)
theorem w_lt {b w : Nat} (h : ¬ b ≤ w) (hb : b < 24) : ¬ nI b ≤ nI w := nI_ge (by omega) (by omega)
theorem acts_ok (hI : LInv N a H f io im gs) (h0 : n0 ≤ 60) (tr : Nat → Int32) (at0 fp fr fc : Int32) (sg nb : Nat → Int32) (x y : Int32) : ∃ z, ML_acts f tr io im gs (nI n0) at0 fp fr fc sg nb x y = some z ∧ ActQ N a H z := by
  have h := hI.1
  have hi := hI.2.1.1
  have hn := hi.1
  unfold ML_acts
  obtain ⟨w, hw, ew⟩ := low_ok x (N := 24) (by decide) (by decide)
  refine xb ew ?_
  refine xb (kq0 h im (nI n0)) ?_
  obtain ⟨r, hr, er⟩ := low_ok y (N := aG a 0 + 1) (by omega) (by omega)
  rw [← nI_1] at er
  refine xb er ?_
  obtain ⟨j10, j14, e10, e14, hwho⟩ := who_is h hi hr
  refine xb e10 (xb e14 ?_)
  obtain ⟨zr, r1, r2, r3, r4⟩ := reads_ok hI h0 tr at0 fp fr fc sg nb y
  have br : bzA zr.1 = some 1 := by rw [r2]; exact if_pos (Or.inr rfl)
  by_cases q7 : 7 ≤ w
  · refine xt (w_ge (b := 7) q7 hw) ?_
    by_cases q9 : 9 ≤ w
    · refine xt (w_ge (b := 9) q9 hw) ?_
      by_cases q13 : 13 ≤ w
      · refine xt (w_ge (b := 13) q13 hw) ?_
        by_cases q15 : 15 ≤ w
        · refine xt (w_ge (b := 15) q15 hw) ?_
          by_cases e15 : w = 15
          · refine xt (show nI w = 15 by rw [e15]; rfl) ?_
            exact act_lay hI h0 tr at0 fp fr fc sg nb hwho
          · refine xf (show ¬ nI w = 15 from fun z => e15 ((nI_eq (b := 15) (by omega) (by decide)).mp z)) ?_
            by_cases q19 : 19 ≤ w
            · refine xt (w_ge (b := 19) q19 hw) ?_
              by_cases q21 : 21 ≤ w
              · refine xt (w_ge (b := 21) q21 hw) ?_
                by_cases e21 : w = 21
                · refine xt (show nI w = 21 by rw [e21]; rfl) ?_
                  obtain ⟨u, _, eu⟩ := low_ok y (N := 4) (by decide) (by decide)
                  refine xb eu ?_
                  refine xc (fun _ => ?_) (fun _ => ?_)
                  · exact act_begin hI h0 tr at0 fp fr fc sg nb y
                  · exact xb r1 (xb br (xs ⟨r2, r3, r4⟩))
                · refine xf (show ¬ nI w = 21 from fun z => e21 ((nI_eq (b := 21) (by omega) (by decide)).mp z)) ?_
                  exact xb r1 (xb br (xs ⟨r2, r3, r4⟩))
              · refine xf (w_lt (b := 21) q21 (by decide)) ?_
                exact act_set hI h0 tr at0 fp fr fc sg nb y
            · refine xf (w_lt (b := 19) q19 (by decide)) ?_
              exact act_days hI h0 tr at0 fp fr fc sg nb y
        · refine xf (w_lt (b := 15) q15 (by decide)) ?_
          exact act_swap hI h0 tr at0 fp fr fc sg nb y hwho
      · refine xf (w_lt (b := 13) q13 (by decide)) ?_
        exact act_mend hI h0 tr at0 fp fr fc sg nb hwho
    · refine xf (w_lt (b := 9) q9 (by decide)) ?_
      exact act_lose hI h0 tr at0 fp fr fc sg nb hwho
  · refine xf (w_lt (b := 7) q7 (by decide)) ?_
    obtain ⟨zc, c1, c2, c3⟩ := cells_ok hI (nI n0) y
    have bc : bzA zc.1 = some 1 := by rw [c2]; exact if_pos (Or.inr rfl)
    exact xb c1 (xb bc (xs ⟨c2, c3, n0, h0, rfl⟩))
end ACTS2
