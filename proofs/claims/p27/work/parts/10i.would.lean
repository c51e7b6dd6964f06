/-! what would be, and the best order -/
section WOULD
variable {a : Abs} {f : Nat → Int32}
theorem lost_loop (h : RepC a f) (hi : aInv a) : itr (SL_would_38 (nI (aG a 0)) f) FU (0, 0) = some (nI (aNl a)) := by
  have hn := hi.1
  refine itr_for (step := SL_would_38 (nI (aG a 0)) f) (aG a 0) (fun k => (nI (sm (fun r => b1 (decide (aF a 1 r = 0))) k), nI k)) (nI (aNl a)) (fun r hr => ?_) ?_ FU (FU_lt (by omega))
  · unfold SL_would_38
    dsimp only
    rw [if_neg (nI_ge hr (by omega)), rq1 h hi hr, Option.bind_some, nI_1]
    have : (1 : Int32) - nI (aF a 1 r) = nI (b1 (decide (aF a 1 r = 0))) := by
      rcases inv_live hi hr with w | w <;> rw [w] <;> rfl
    rw [this, nI_add]
    rfl
  · unfold SL_would_38
    dsimp only
    rw [if_pos (nI_le (Nat.le_refl _) (by omega))]
    rfl
theorem told_ok (h : RepC a f) (hi : aInv a) (im le : Int32) {r w : Nat} (hr : r < aG a 0 + 1) (hw : w < 5) : ∃ v, MX5_would f (nI r) (nI w) = some v ∧ ((if nI r = nI (aG a 0) then (if v = (-1000001) then some 1 else some 0) else (if nI w = 4 then (if v = (-1000001) then some 1 else some 0) else (MX5_row f (nI r) 1).bind fun v154 => (if v154 = 1 then (if v = (-1000002) then some 1 else some 0) else (if nI w = 3 then (if v = (-1000004) then some 1 else (if v < 0 then some 0 else (MX5_count f im le 21).bind fun v171 => (if v171 < v then some 0 else some 1))) else (if v < 0 then some 0 else (if 8 < v then some 0 else some 1)))))) : Option Int32) = some 1 := by
  have hn := hi.1
  have hf := hi.2.2.2.1
  by_cases q : r = aG a 0
  · subst q
    refine ⟨_, dq_no h hi (nI w), ?_⟩
    rw [if_pos rfl, if_pos rfl]
  · have hr' : r < aG a 0 := by omega
    have e1 : ¬ nI r = nI (aG a 0) := fun z => q ((nI_eq (by omega) (by omega)).mp z)
    by_cases q4 : w = 4
    · subst q4
      refine ⟨_, dq4 h hi hr', ?_⟩
      rw [if_neg e1, if_pos (show nI 4 = 4 from rfl), if_pos rfl]
    · have e4 : ¬ nI w = 4 := fun z => q4 ((nI_eq (b := 4) (by omega) (by decide)).mp z)
      have k1 := rq1 h hi hr'
      rcases inv_live hi hr' with l | l
      · rw [l] at k1
        match w, hw, q4, e4 with
        | 0, _, _, e4 =>
          have hb := aBack_le a r
          refine ⟨_, dq0 h hi hr' l, ?_⟩
          rw [if_neg e1, if_neg e4, k1, Option.bind_some, if_neg (show ¬ nI 0 = 1 by decide), if_neg (show ¬ nI 0 = 3 by decide), if_neg (nI_pos (by omega)), if_neg (show ¬ (8 : Int32) < nI (aBack a r) from nI_nlt (a := 8) hb (by decide))]
        | 1, _, _, e4 =>
          have hb := aWrongs_le a r
          refine ⟨_, dq1 h hi hr' l, ?_⟩
          rw [if_neg e1, if_neg e4, k1, Option.bind_some, if_neg (show ¬ nI 0 = 1 by decide), if_neg (show ¬ nI 1 = 3 by decide), if_neg (nI_pos (by omega)), if_neg (show ¬ (8 : Int32) < nI (aWrongs a r) from nI_nlt (a := 8) hb (by decide))]
        | 2, _, _, e4 =>
          refine ⟨_, dq2 h hi hr' l, ?_⟩
          rw [if_neg e1, if_neg e4, k1, Option.bind_some, if_neg (show ¬ nI 0 = 1 by decide), if_neg (show ¬ nI 2 = 3 by decide), if_neg (nI_pos (by omega)), if_neg (show ¬ (8 : Int32) < nI (8 - aHeards a r 8) from nI_nlt (a := 8) (by omega) (by decide))]
        | 3, _, _, e4 =>
          refine ⟨_, dq3 h hi hr' l, ?_⟩
          rw [if_neg e1, if_neg e4, k1, Option.bind_some, if_neg (show ¬ nI 0 = 1 by decide), if_pos (show nI 3 = 3 from rfl)]
          rcases oldest_in hi r 8 with e | ⟨m, m1, e⟩
          · rw [e, if_pos rfl]
          · rw [e, if_neg (en_m m (by omega)), if_neg (nI_pos (by omega)), kq21 h im le, Option.bind_some, if_neg (nI_nlt m1 (by omega))]
        | 4, _, q4, _ => exact absurd rfl q4
        | w + 5, hw, _, _ => omega
      · refine ⟨_, dq_live h hi hr' l (nI w) (nI_pos (by omega)) (nI_le (b := 3) (by omega) (by decide)), ?_⟩
        rw [if_neg e1, if_neg e4, k1, l, Option.bind_some, if_pos (show nI 1 = 1 from rfl), if_pos rfl]
theorem rows_ge (a : Abs) : ∀ k m, rowsO a k = some m → 1 ≤ m ∧ ∃ r, r < k ∧ aSafe a r = true := by
  intro k
  induction k with
  | zero => intro m h; cases h
  | succ k ih =>
    intro m h
    unfold rowsO at h
    by_cases q : aSafe a k = true
    · rw [if_pos q] at h
      refine ⟨?_, k, Nat.lt_succ_self k, q⟩
      cases e1 : rowsO a k with
      | none =>
        rw [e1] at h
        cases e2 : mxO a k 8 with
        | none => rw [e2] at h; cases h
        | some z =>
          rw [e2] at h
          have : aG a 3 - z + 1 = m := Option.some.inj h
          omega
      | some y =>
        have hy := (ih y e1).1
        rw [e1] at h
        cases e2 : mxO a k 8 with
        | none =>
          rw [e2] at h
          have : y = m := Option.some.inj h
          omega
        | some z =>
          rw [e2] at h
          have h' : some (if y ≤ aG a 3 - z + 1 then y else aG a 3 - z + 1) = some m := h
          have h2 := Option.some.inj h'
          split at h2 <;> omega
    · rw [if_neg q] at h
      obtain ⟨h1, r, r1, r2⟩ := ih m h
      exact ⟨h1, r, by omega, r2⟩
theorem would_ok (h : RepC a f) (hi : aInv a) (su : Int32) (s0 s1 s2 s3 tr be : Nat → Int32) (im le x : Int32) : ∃ z, ML_would f su s0 s1 s2 s3 tr be im le x = some z ∧ z.1 = 1 := by
  have hn := hi.1
  have hnl := nl_le a
  have hf := hi.2.2.2.1
  unfold ML_would
  refine xb (kq0 h im le) ?_
  obtain ⟨r, hr, er⟩ := low_ok x (N := aG a 0 + 1) (by omega) (by omega)
  rw [← nI_1] at er
  refine xb er ?_
  obtain ⟨w, hw, ew⟩ := low_ok (x >>> (4 &&& 31)) (N := 5) (by decide) (by decide)
  refine xb ew ?_
  obtain ⟨v, hv, hin⟩ := told_ok h hi im le hr hw
  refine xb hv ?_
  refine xb (lost_loop h hi) ?_
  obtain ⟨k, hk, ek⟩ := low_ok (x >>> (7 &&& 31)) (N := 6) (by decide) (by decide)
  refine xb ek ?_
  obtain ⟨zo, o1, o2⟩ := ord_ok h hi su s0 s1 s2 s3 tr be hk
  refine xb o1 ?_
  obtain ⟨zc, c1, c2⟩ := com_ok h hi zo.2.1 zo.2.2.1 zo.2.2.2.1 zo.2.2.2.2.1 zo.2.2.2.2.2.1 zo.2.2.2.2.2.2.1 zo.2.2.2.2.2.2.2
  refine xb c1 ?_
  refine xb (kqsafeFor h hi) ?_
  refine xb hin ?_
  have com : ((if nI (aNl a) ≤ 4 then (if zc.1 < 0 then some 0 else (if (8 * nI (aNl a)) < zc.1 then some 0 else some 1)) else (if zc.1 = (-1000003) then some 1 else some 0)) : Option Int32) = some 1 := by
    by_cases q : 4 < aNl a
    · rw [if_pos q] at c2
      rw [if_neg (show ¬ nI (aNl a) ≤ 4 from nI_ge (a := 4) q (by omega)), c2, if_pos rfl]
    · rw [if_neg q] at c2
      obtain ⟨g, g1, g2⟩ := c2
      rw [if_pos (show nI (aNl a) ≤ 4 from nI_le (b := 4) (by omega) (by decide)), g2, if_neg (nI_pos (by omega)), show (8 : Int32) * nI (aNl a) = nI (8 * aNl a) from (Int32.ofNat_mul 8 (aNl a)).symm, if_neg (nI_nlt g1 (by omega))]
  have mid : ((if (1 : Int32) = 0 then some 0 else (if 0 ≤ (nI k - 1) then (if nI (aNl a) ≤ 4 then (if (nI k - 1) < nI (aNl a) then (if zo.1 < 0 then some 0 else (MX5_row f zo.1 1).bind fun v76 => (if v76 = 0 then (if nI (aNl a) ≤ 4 then (if zc.1 < 0 then some 0 else (if (8 * nI (aNl a)) < zc.1 then some 0 else some 1)) else (if zc.1 = (-1000003) then some 1 else some 0)) else some 0)) else (if zo.1 = (-1000004) then (if nI (aNl a) ≤ 4 then (if zc.1 < 0 then some 0 else (if (8 * nI (aNl a)) < zc.1 then some 0 else some 1)) else (if zc.1 = (-1000003) then some 1 else some 0)) else some 0)) else (if zo.1 = (-1000003) then (if nI (aNl a) ≤ 4 then (if zc.1 < 0 then some 0 else (if (8 * nI (aNl a)) < zc.1 then some 0 else some 1)) else (if zc.1 = (-1000003) then some 1 else some 0)) else some 0)) else (if zo.1 = (-1000001) then (if nI (aNl a) ≤ 4 then (if zc.1 < 0 then some 0 else (if (8 * nI (aNl a)) < zc.1 then some 0 else some 1)) else (if zc.1 = (-1000003) then some 1 else some 0)) else some 0))) : Option Int32) = some 1 := by
    rw [if_neg one_n0]
    by_cases k0 : k = 0
    · rw [if_pos k0] at o2
      rw [k0, if_neg (show ¬ (0 : Int32) ≤ nI 0 - 1 by decide), o2, if_pos rfl, com]
    · rw [if_neg k0] at o2
      rw [nI_m1 (by omega), if_pos (nI_pos' (by omega))]
      by_cases q : 4 < aNl a
      · rw [if_pos q] at o2
        rw [if_neg (show ¬ nI (aNl a) ≤ 4 from nI_ge (a := 4) q (by omega)), o2, if_pos rfl]
        exact com
      · rw [if_neg q] at o2
        rw [if_pos (show nI (aNl a) ≤ 4 from nI_le (b := 4) (by omega) (by decide))]
        by_cases w2 : aNl a ≤ k - 1
        · rw [if_pos w2] at o2
          rw [if_neg (nI_nlt w2 (by omega)), o2, if_pos rfl]
          exact com
        · rw [if_neg w2] at o2
          obtain ⟨r2, y1, y2, y3⟩ := o2
          rw [if_pos (nI_lt (by omega) (by omega)), y3, if_neg (nI_pos (by omega)), rq1 h hi y1, Option.bind_some, y2, if_pos (show nI 0 = 0 from rfl)]
          exact com
  refine xb mid ?_
  refine xf one_n0 ?_
  cases e : rowsO a (aG a 0) with
  | none =>
    refine xt (show enO none = -1000004 from rfl) ?_
    exact xs rfl
  | some m =>
    have hm := rows_ub _ _ e
    obtain ⟨h1, r2, y1, y2⟩ := rows_ge a _ m e
    refine xf (show ¬ nI m = -1000004 from en_m m (by omega)) ?_
    refine xf (show ¬ nI m < 1 from nI_nlt (b := 1) h1 (by omega)) ?_
    refine xb (kq21 h im le) ?_
    rw [nI_1]
    refine xf (show ¬ nI (aG a 3 + 1) < nI m from nI_nlt hm (by omega)) ?_
    refine xb (kq3 h hi im le) ?_
    refine xf (fun z => ?_) (xs rfl)
    have hb : bits (aSafe a) (aG a 0) < 2 ^ 31 := Nat.lt_of_lt_of_le (bits_lt _ _) (Nat.pow_le_pow_right (by decide) (by omega))
    have := (bits_zero _ _).mp ((nI_eq (b := 0) hb (by decide)).mp z) r2 y1
    rw [y2] at this
    cases this
end WOULD
