/-! acts: a text is typed, looked for faults, and played -/
section READS
variable {a : Abs} {f : Nat → Int32} {io im : Int32} {gs : Nat → Nat → Int32} {H : List Abs} {N : Nat}
theorem fault_ok (h : RepC a f) (hg : GoodA N a) {n : Nat} (hn : n ≤ 60) (sg tr : Nat → Int32) (at0 fp fr fc : Int32) (nb : Nat → Int32) (x : Int32) (hx : ¬ x < 0) (hx2 : x ≤ 2) : ∃ z, MX5_fault f tr (nI n) at0 fp fr fc sg nb x = some z ∧ (match runW n sg a with
    | .inl w => z.1 = if x = 0 then w.1 else if x = 1 then w.2.1 else w.2.2
    | .inr _ => z.1 = -1000004) := by
  unfold MX5_fault
  rw [if_neg hx, if_pos hx2]
  obtain ⟨v, c1, c2⟩ := C_copy tr f
  obtain ⟨z, e1, e2⟩ := run_okC (sg := sg) (fp := fp) (fr := fr) (fc := fc) hn (RepC_agree h hg.1 c2) hg at0 nb
  rw [c1, Option.bind_some, e1, Option.bind_some]
  rcases e2 with ⟨c, a', e3, e4, e5⟩ | ⟨x0, y0, u0, e3, e4, e5, e6, e7⟩
  · have hs := runW_says (sg := sg) hn hg
    rw [e3] at hs
    have hc : c ≤ 60 := by
      have : c = cntL (tAt n sg) n := hs.1
      rw [this]
      exact Nat.le_trans (sm_b1_le _ n) hn
    rw [e3, e4, if_pos (nI_pos' (by omega))]
    exact ⟨_, rfl, rfl⟩
  · rw [e3, e4, if_neg (show ¬ (0 : Int32) ≤ -1 by decide), e5, e6, e7]
    unfold MX2_ofFault
    by_cases q0 : x = 0
    · rw [if_pos q0, Option.bind_some]
      exact ⟨_, rfl, (if_pos q0).symm⟩
    · by_cases q1 : x = 1
      · rw [if_neg q0, if_pos q1, Option.bind_some]
        exact ⟨_, rfl, ((if_neg q0).trans (if_pos q1)).symm⟩
      · rw [if_neg q0, if_neg q1, Option.bind_some]
        exact ⟨_, rfl, ((if_neg q0).trans (if_neg q1)).symm⟩
theorem play_ok (hI : LInv N a H f io im gs) {n : Nat} (hn : n ≤ 60) (sg tr : Nat → Int32) (at0 fp fr fc : Int32) (nb : Nat → Int32) : ∃ z, MX5_play f tr io im gs (nI n) at0 fp fr fc sg nb = some z ∧ (match runW n sg a with
    | .inl _ => z.1 = -1000002 ∧ z.2.1 = f ∧ z.2.2.2.1 = io ∧ z.2.2.2.2.1 = im ∧ z.2.2.2.2.2.1 = gs
    | .inr w => z.1 = nI w.1 ∧ LInv (N + 60) w.2 (pushH H a) z.2.1 z.2.2.2.1 z.2.2.2.2.1 z.2.2.2.2.2.1) := by
  obtain ⟨h, hg, hh, hH⟩ := hI
  unfold MX5_play
  obtain ⟨v, c1, c2⟩ := C_copy tr f
  obtain ⟨z, e1, e2⟩ := run_okC (sg := sg) (fp := fp) (fr := fr) (fc := fc) hn (RepC_agree h hg.1 c2) hg at0 nb
  rw [c1, Option.bind_some, e1, Option.bind_some]
  rcases e2 with ⟨c, a', e3, e4, e5⟩ | ⟨x0, y0, u0, e3, e4, e5, e6, e7⟩
  · have hs := runW_says (sg := sg) hn hg
    rw [e3] at hs
    have hs2 : GoodA (N + c) a' := hs.2
    have hc : c ≤ 60 := by
      have : c = cntL (tAt n sg) n := hs.1
      rw [this]
      exact Nat.le_trans (sm_b1_le _ n) hn
    obtain ⟨v1, n1, n2, ⟨io', im', n3, n4⟩, n5⟩ := hist_C h hg.1 hh
    obtain ⟨v2, d1, d2⟩ := C_copy f z.2.2.2.2.2.2
    rw [e3, e4, if_pos (nI_pos' (by omega)), n1, Option.bind_some, d1, Option.bind_some, n4 _ (nI_pos' (by omega)), Option.bind_some]
    refine ⟨_, rfl, rfl, RepC_agree e5 hs2.1 d2, hs2.mono (by omega), n3, fun b hb => ?_⟩
    rcases push_mem hb with w | w
    · exact (hH b w).mono (by omega)
    · rw [w]; exact hg.mono (by omega)
  · rw [e3, e4, if_neg (show ¬ (0 : Int32) ≤ -1 by decide)]
    exact ⟨_, rfl, rfl, rfl, rfl, rfl, rfl⟩
theorem push_len (H : List Abs) (a : Abs) (h : H.length ≤ 4) : (pushH H a).length = if H.length = 4 then 4 else H.length + 1 := by
  unfold pushH
  by_cases q : H.length = 4
  · rw [if_pos q, if_pos q, List.length_append, List.length_drop, q]
    rfl
  · rw [if_neg q, if_neg q, List.length_append]
    rfl
theorem reads_ok (hI : LInv N a H f io im gs) {m0 : Nat} (h0 : m0 ≤ 60) (tr : Nat → Int32) (at0 fp fr fc : Int32) (sg0 nb : Nat → Int32) (x : Int32) : ∃ z, ML_reads f tr io im gs (nI m0) at0 fp fr fc sg0 nb x = some z ∧ (z.1 = 1 ∧ After N a H z.2.1 z.2.2.2.1 z.2.2.2.2.1 z.2.2.2.2.2.1 ∧ ∃ n', n' ≤ 60 ∧ z.2.2.2.2.2.2.1 = nI n') := by
  have h := hI.1
  have hg := hI.2.1
  have him := hI.2.2.1.2.1
  have hH4 := hI.2.2.1.1
  unfold ML_reads
  obtain ⟨k, k1, k2, t, t1, n, sg, t2, hn, hcn⟩ := types_ok h hg.1 im h0 sg0 x
  subst t2
  refine xb t1 ?_
  dsimp only
  refine xb (cnt15 f im (nI n)) ?_
  refine xb (cnt14 f im (nI n)) ?_
  obtain ⟨z0, a1, a2⟩ := fault_ok h hg hn sg tr at0 fp fr fc nb 0 (by decide) (by decide)
  refine xb a1 ?_
  obtain ⟨z1, b1', b2⟩ := fault_ok h hg hn sg z0.2.1 z0.2.2.1 z0.2.2.2.1 z0.2.2.2.2.1 z0.2.2.2.2.2.1 z0.2.2.2.2.2.2 1 (by decide) (by decide)
  refine xb b1' ?_
  obtain ⟨z2, d1, d2⟩ := fault_ok h hg hn sg z1.2.1 z1.2.2.1 z1.2.2.2.1 z1.2.2.2.2.1 z1.2.2.2.2.2.1 z1.2.2.2.2.2.2 2 (by decide) (by decide)
  refine xb d1 ?_
  obtain ⟨zp, p1, p2⟩ := play_ok hI hn sg z2.2.1 z2.2.2.1 z2.2.2.2.1 z2.2.2.2.2.1 z2.2.2.2.2.2.1 z2.2.2.2.2.2.2
  refine xb p1 ?_
  have hs := runW_says (sg := sg) hn hg
  have c15 := cnt15 zp.2.1 zp.2.2.2.2.1 (nI n)
  have c14 := cnt14 zp.2.1 zp.2.2.2.2.1 (nI n)
  cases e : runW n sg a with
  | inl w =>
    rw [e] at a2 b2 d2 p2 hs
    obtain ⟨q, q1, q2, q3⟩ := hs
    obtain ⟨y1, y2, y3, y4, y5⟩ := p2
    have a3 : z0.1 = if (0 : Int32) = 0 then w.1 else if (0 : Int32) = 1 then w.2.1 else w.2.2 := a2
    have b3 : z1.1 = if (1 : Int32) = 0 then w.1 else if (1 : Int32) = 1 then w.2.1 else w.2.2 := b2
    have d3 : z2.1 = if (2 : Int32) = 0 then w.1 else if (2 : Int32) = 1 then w.2.1 else w.2.2 := d2
    have x0 : z0.1 = nI q := (a3.trans (if_pos rfl)).trans q2
    have x1 : z1.1 = w.2.1 := b3.trans ((if_neg one_n0).trans (if_pos rfl))
    have x2 : z2.1 = w.2.2 := d3.trans ((if_neg (by decide)).trans (if_neg (by decide)))
    have nq : ¬ nI q = -1000004 := en_m q (by omega)
    have A : After N a H zp.2.1 zp.2.2.2.1 zp.2.2.2.2.1 zp.2.2.2.2.2.1 := by
      rw [y2, y3, y4, y5]
      exact ⟨a, H, hI.mono (by omega), Or.inl ⟨rfl, rfl⟩⟩
    rw [y4] at c14
    have n1 : ¬ z1.1 = -1000004 := by
      rw [x1]
      rcases q3 with ⟨g, _⟩ | ⟨g, _⟩ <;> rw [g] <;> decide
    have n2 : ¬ z2.1 = -1000004 := by
      rw [x2]
      rcases q3 with ⟨_, k, g, _⟩ | ⟨_, g | g | g⟩
      · rw [g]; exact en_m k (by omega)
      · rw [g]; decide
      · rw [g]; decide
      · rw [g]; decide
    refine xb (v := 1) ?_ ?_
    · rw [if_neg one_n0, c15, Option.bind_some, if_pos rfl, x0, if_neg nq, Option.bind_some, if_neg n1, Option.bind_some, if_pos rfl, Option.bind_some, if_neg n2, Option.bind_some, if_pos rfl, y1, if_pos rfl, Option.bind_some, if_neg (nI_pos (by omega)), if_pos rfl]
    refine xf one_n0 ?_
    rw [x0]
    refine xf (nI_pos (by omega)) (xf (nI_ge q1 (by omega)) ?_)
    have fin : (1 : Int32) = 1 ∧ After N a H zp.2.1 zp.2.2.2.1 zp.2.2.2.2.1 zp.2.2.2.2.2.1 ∧ ∃ n', n' ≤ 60 ∧ nI n = nI n' := ⟨rfl, A, n, hn, rfl⟩
    rw [x1, x2]
    rcases q3 with ⟨g, k, g2, g3⟩ | ⟨g, g2⟩
    · refine xt g ?_
      rw [g2]
      refine xf (nI_pos (by omega)) ?_
      rw [nI_add]
      refine xf (nI_nlt g3 (by omega)) ?_
      rw [y4]
      rw [y4] at fin
      exact xb c14 (xt rfl (xs fin))
    · refine xf (by rw [g]; decide) (xt g ?_)
      rw [y4]
      rw [y4] at fin
      rcases g2 with g2 | g2 | g2
      · exact xt g2 (xb c14 (xt rfl (xs fin)))
      · exact xf (by rw [g2]; decide) (xt g2 (xb c14 (xt rfl (xs fin))))
      · exact xf (by rw [g2]; decide) (xf (by rw [g2]; decide) (xt g2 (xb c14 (xt rfl (xs fin)))))
  | inr w =>
    rw [e] at a2 b2 d2 p2 hs
    obtain ⟨y1, y2⟩ := p2
    have x0 : z0.1 = -1000004 := a2
    have x1 : z1.1 = -1000004 := b2
    have x2 : z2.1 = -1000004 := d2
    have hw : w.1 = k := by
      have : w.1 = cntL (tAt n sg) n := hs.1
      rw [this, ← hcn]
      exact cntL_congr n (fun i hi => if_pos hi)
    have hm : zp.2.2.2.2.1 = nI (pushH H a).length := y2.2.2.1.2.1
    have A : After N a H zp.2.1 zp.2.2.2.1 zp.2.2.2.2.1 zp.2.2.2.2.2.1 := ⟨w.2, pushH H a, y2, Or.inr rfl⟩
    have fin : (1 : Int32) = 1 ∧ After N a H zp.2.1 zp.2.2.2.1 zp.2.2.2.2.1 zp.2.2.2.2.2.1 ∧ ∃ n', n' ≤ 60 ∧ nI n = nI n' := ⟨rfl, A, n, hn, rfl⟩
    have hpl := push_len H a hH4
    refine xb (v := 1) ?_ ?_
    · rw [if_neg one_n0, c15, Option.bind_some, if_pos rfl, x0, if_pos rfl, Option.bind_some, x1, if_pos rfl, Option.bind_some, if_pos rfl, Option.bind_some, x2, if_pos rfl, Option.bind_some, if_pos rfl, y1, if_neg (show ¬ nI w.1 = -1000002 from fun z => by
        have := congrArg Int32.toInt z
        rw [nI_toInt (by omega)] at this
        have h9 : (-1000002 : Int32).toInt = -1000002 := by decide
        omega), Option.bind_some, if_pos (show (-1000004 : Int32) < 0 by decide), if_pos rfl]
    refine xf one_n0 ?_
    rw [x0]
    refine xt (show (-1000004 : Int32) < 0 by decide) (xb k2 (xt (by rw [y1, hw]) (xb c14 ?_)))
    rw [him, hm]
    rw [hm] at fin
    by_cases q : H.length = 4
    · refine xt (show (4 : Int32) ≤ nI H.length by rw [q]; decide) (xt (by rw [hpl, if_pos q]; rfl) (xs fin))
    · refine xf (show ¬ (4 : Int32) ≤ nI H.length from nI_ge (b := 4) (by omega) (by decide)) (xt (by rw [hpl, if_neg q, nI_1]) (xs fin))
end READS
