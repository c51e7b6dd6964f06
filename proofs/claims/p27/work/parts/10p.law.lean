/-! the law answers true -/
theorem snoc_cases {α : Type} : ∀ l : List α, l = [] ∨ ∃ L b, l = L ++ [b]
  | [] => Or.inl rfl
  | x :: l => Or.inr (match snoc_cases l with
    | Or.inl h => ⟨[], x, by rw [h]; rfl⟩
    | Or.inr ⟨L, b, h⟩ => ⟨x :: L, b, by rw [h]; rfl⟩)
section LAWP
variable {a : Abs} {f : Nat → Int32} {io im : Int32} {gs : Nat → Nat → Int32} {H : List Abs} {N L : Nat} {zs : Nat → Int32}
theorem undo_any (hI : LInv N a H f io im gs) : ∃ x f' im' a' H', MX5_undo f io im gs = some (x, f', im') ∧ x = (if H.length = 0 then -1000002 else nI (H.length - 1)) ∧ LInv N a' H' f' io im' gs := by
  rcases snoc_cases H with rfl | ⟨H0, b, rfl⟩
  · exact ⟨_, _, _, a, [], undo_0 hI.2.2.1, rfl, hI⟩
  · have hb := hI.2.2.2 b (List.mem_append_right _ (List.mem_singleton.mpr rfl))
    obtain ⟨f', u1, u2, u3⟩ := undo_1 (f := f) hI.2.2.1 hb.1
    have hl : (H0 ++ [b]).length = H0.length + 1 := by rw [List.length_append]; rfl
    refine ⟨_, _, _, b, H0, u1, ?_, u2, hb, u3, fun c hc => hI.2.2.2 c (List.mem_append_left _ hc)⟩
    rw [hl, if_neg (by omega), Nat.add_sub_cancel]
theorem lot_ok (hL : L ≤ 260) {k : Nat} (hk : k < 2 ^ 20) : ∃ v, ML_lot L zs (nI k) = some v := by
  unfold ML_lot
  by_cases q : L ≤ k
  · exact ⟨_, if_pos (show Int32.ofNat L ≤ nI k from nI_le q (by omega))⟩
  · rw [if_neg (show ¬ Int32.ofNat L ≤ nI k from nI_ge (by omega) (by omega)), ldA_nI (by omega) (by omega)]
    exact ⟨_, rfl⟩
theorem cmp_self (x : Int64) : lg_cmp x x = 0 := by
  unfold lg_cmp
  simp
abbrev LawSt : Type := Int32 × Int32 × (Nat → Int32) × (Nat → Int32) × Int32 × (Nat → Int32) × (Nat → Int32) × (Nat → Int32) × (Nat → Int32) × (Nat → Int32) × (Nat → Int32) × Int32 × Int32 × (Nat → Nat → Int32) × Int32 × Int32 × Int32 × Int32 × Int32 × (Nat → Int32) × (Nat → Int32)
def LawI (k : Nat) (s : LawSt) : Prop := ∃ (a : Abs) (H : List Abs) (f tr : Nat → Int32) (su : Int32) (s0 s1 s2 s3 td be : Nat → Int32) (io im : Int32) (gs : Nat → Nat → Int32) (n : Nat) (at0 fp fr fc : Int32) (sg nb : Nat → Int32), s = (1, nI k, f, tr, su, s0, s1, s2, s3, td, be, io, im, gs, nI n, at0, fp, fr, fc, sg, nb) ∧ n ≤ 60 ∧ LInv (60 * k) a H f io im gs
theorem law_iter (hL : L ≤ 260) {k : Nat} (hk : k < 44) {s : LawSt} (hs : LawI k s) : ∃ s', SL_law_40 L zs s = some (.inl s') ∧ LawI (k + 1) s' := by
  obtain ⟨a, H, f, tr, su, s0, s1, s2, s3, td, be, io, im, gs, n, at0, fp, fr, fc, sg, nb, rfl, hn60, hI⟩ := hs
  have h := hI.1
  have hg := hI.2.1
  have him := hI.2.2.1.2.1
  have hH4 := hI.2.2.1.1
  suffices hx : ∃ z, SL_law_40 L zs (1, nI k, f, tr, su, s0, s1, s2, s3, td, be, io, im, gs, nI n, at0, fp, fr, fc, sg, nb) = some z ∧ ∃ s', z = .inl s' ∧ LawI (k + 1) s' by
    obtain ⟨z, z1, s', z2, z3⟩ := hx
    exact ⟨s', by rw [z1, z2], z3⟩
  unfold SL_law_40
  dsimp only
  refine xf (show ¬ (44 : Int32) ≤ nI k from nI_ge (b := 44) hk (by decide)) (xf one_n0 ?_)
  have e2 : (2 : Int32) * nI k = nI (2 * k) := (Int32.ofNat_mul 2 k).symm
  obtain ⟨x0, ex0⟩ := lot_ok (zs := zs) hL (k := 2 * k) (by omega)
  obtain ⟨y, ey⟩ := lot_ok (zs := zs) hL (k := 2 * k + 1) (by omega)
  have hj35 : ∃ x, ((if 3 ≤ nI k then (ML_lot L zs (2 * nI k)).bind fun v165 => some v165 else some 0) : Option Int32) = some x := by
    by_cases q : 3 ≤ nI k
    · rw [if_pos q, e2, ex0]
      exact ⟨_, rfl⟩
    · exact ⟨_, if_neg q⟩
  obtain ⟨x, ex⟩ := hj35
  refine xb ex ?_
  rw [e2, nI_1]
  refine xb ey ?_
  refine xb (look_ok h hg.1 hg.2.1 im (nI n)) ?_
  refine xb (cnt14 f im (nI n)) ?_
  obtain ⟨z, z1, z2, ⟨a', H', hI', hch⟩, n', hn', z3⟩ := acts_ok hI hn60 tr at0 fp fr fc sg nb x y
  refine xb z1 ?_
  have h' := hI'.1
  have hg' := hI'.2.1
  have hm' : z.2.2.2.2.1 = nI H'.length := hI'.2.2.1.2.1
  have hH4' := hI'.2.2.1.1
  have hhold := holds_ok h' hg' (show 60 * k + 60 < 2 ^ 31 by omega) z.2.2.2.2.1 z.2.2.2.2.2.2.1
  obtain ⟨zw, w1, w2⟩ := would_ok h' hg'.1 su s0 s1 s2 s3 td be z.2.2.2.2.1 z.2.2.2.2.2.2.1 y
  have hwd : ∃ v, ((if (nI k - nI k / 5 * 5) = 3 then (ML_would z.2.1 su s0 s1 s2 s3 td be z.2.2.2.2.1 z.2.2.2.2.2.2.1 y).bind fun v140 => (if v140.1 = 0 then some (0, v140.2.1, v140.2.2.1, v140.2.2.2.1, v140.2.2.2.2.1, v140.2.2.2.2.2.1, v140.2.2.2.2.2.2.1, v140.2.2.2.2.2.2.2) else some (1, v140.2.1, v140.2.2.1, v140.2.2.2.1, v140.2.2.2.2.1, v140.2.2.2.2.2.1, v140.2.2.2.2.2.2.1, v140.2.2.2.2.2.2.2)) else some (1, su, s0, s1, s2, s3, td, be)) : Option (Int32 × Int32 × (Nat → Int32) × (Nat → Int32) × (Nat → Int32) × (Nat → Int32) × (Nat → Int32) × (Nat → Int32))) = some v ∧ v.1 = 1 := by
    refine xc (fun _ => ?_) (fun _ => xs rfl)
    exact xb w1 (xf (by rw [w2]; exact one_n0) (xs rfl))
  refine xj (fun v => v.1 = 1) ?_ ?_
  · refine xf (by rw [z2]; exact one_n0) (xc (fun _ => hwd) (fun _ => ?_))
    exact xb hhold (xf one_n0 hwd)
  rintro ⟨_, su', s0', s1', s2', s3', td', be'⟩ hv
  have hv : _ = (1 : Int32) := hv
  subst hv
  dsimp only
  refine xb (cnt14 z.2.1 z.2.2.2.2.1 z.2.2.2.2.2.2.1) ?_
  rw [him, hm']
  have hlook := look_ok h' hg'.1 hg'.2.1 z.2.2.2.2.1 z.2.2.2.2.2.2.1
  rw [hm'] at hlook
  refine xb (v := 1) ?_ ?_
  · rw [if_neg one_n0]
    rcases hch with ⟨rfl, rfl⟩ | rfl
    · rw [if_pos rfl]
      by_cases q : nI H'.length = 4
      · rw [if_pos q]
      · rw [if_neg q, hlook, Option.bind_some, cmp_self, if_pos rfl]
    · rw [push_len H a hH4]
      by_cases q : H.length = 4
      · rw [if_pos q, q, if_pos (show nI 4 = nI 4 from rfl), if_pos (show nI 4 = 4 from rfl)]
      · rw [if_neg q, if_neg (show ¬ nI (H.length + 1) = nI H.length from fun w => by
          have := (nI_eq (by omega) (by omega)).mp w
          omega), nI_1, if_pos rfl]
  have keep : ∃ v : Int32 × (Nat → Int32) × Int32, some ((1 : Int32), z.2.1, nI H'.length) = some v ∧ (v.1 = 1 ∧ ∃ a2 H2, LInv (60 * (k + 1)) a2 H2 v.2.1 z.2.2.2.1 v.2.2 z.2.2.2.2.2.1) := by
    rw [← hm']
    exact xs ⟨rfl, a', H', hI'⟩
  refine xj (fun v => v.1 = 1 ∧ ∃ a2 H2, LInv (60 * (k + 1)) a2 H2 v.2.1 z.2.2.2.1 v.2.2 z.2.2.2.2.2.1) ?_ ?_
  · refine xf one_n0 (xc (fun q => ?_) (fun _ => keep))
    obtain ⟨u, _, eu⟩ := low_ok (y >>> (8 &&& 31)) (N := 3) (by decide) (by decide)
    refine xb eu (xc (fun _ => ?_) (fun _ => keep))
    have hlt : H.length < 4 ∧ H' = H ++ [a] := by
      rw [nI_1] at q
      rcases hch with ⟨_, rfl⟩ | rfl
      · have := (nI_eq (by omega) (by omega)).mp q
        omega
      · have q2 := (nI_eq (by omega) (by omega)).mp q
        rw [push_len H a hH4] at q2
        by_cases q4 : H.length = 4
        · rw [if_pos q4] at q2
          omega
        · refine ⟨by omega, ?_⟩
          unfold pushH
          rw [if_neg q4]
    obtain ⟨hlt, rfl⟩ := hlt
    obtain ⟨f', u1, u2, u3⟩ := undo_1 (f := z.2.1) hI'.2.2.1 hg.1
    rw [hm'] at u1
    have hl2 := look_ok u2 hg.1 hg.2.1 (nI H.length) z.2.2.2.2.2.2.1
    refine xb u1 (xt rfl (xb hl2 (xt (cmp_self _) (xs ⟨rfl, a, H, u2, hg.mono (by omega), u3, fun b hb => (hI.2.2.2 b hb).mono (by omega)⟩))))
  rintro ⟨_, f2, im2⟩ ⟨hv, a2, H2, hI2⟩
  have hv : _ = (1 : Int32) := hv
  subst hv
  dsimp only
  dsimp only at hI2
  refine xf one_n0 ?_
  rw [z3, nI_1]
  refine xc (fun _ => ?_) (fun _ => xs ⟨_, rfl, a2, H2, f2, _, _, _, _, _, _, _, _, _, _, _, n', _, _, _, _, _, _, rfl, hn', hI2⟩)
  have him2 := hI2.2.2.1.2.1
  have hH42 := hI2.2.2.1.1
  refine xb (cnt14 f2 im2 (nI n')) ?_
  obtain ⟨xu, f3, im3, a3, H3, u1, u2, u3⟩ := undo_any hI2
  refine xb u1 ?_
  refine xb (v := xu) ?_ (xt rfl (xs ⟨_, rfl, a3, H3, f3, _, _, _, _, _, _, _, _, _, _, _, n', _, _, _, _, _, _, rfl, hn', u3⟩))
  rw [him2, u2]
  by_cases q : H2.length = 0
  · rw [if_pos (show nI H2.length = 0 by rw [q]; rfl), if_pos q]
  · rw [if_neg (nI_ne0 (by omega) (by omega)), if_neg q, nI_m1 (by omega)]
theorem law_ok (hL : L ≤ 260) (hI : LInv 0 a [] f io im gs) (tr : Nat → Int32) (su : Int32) (s0 s1 s2 s3 td be : Nat → Int32) (at0 fp fr fc : Int32) (sg nb : Nat → Int32) : ML_law L zs f tr su s0 s1 s2 s3 td be io im gs (nI 0) at0 fp fr fc sg nb = some 1 := by
  suffices hx : ∃ z, ML_law L zs f tr su s0 s1 s2 s3 td be io im gs (nI 0) at0 fp fr fc sg nb = some z ∧ z = 1 by
    obtain ⟨z, z1, z2⟩ := hx
    rw [z1, z2]
  have h := hI.1
  have hg := hI.2.1
  unfold ML_law
  refine xb (holds_ok h hg (by decide) im (nI 0)) ?_
  refine xj (fun v => v.1 = 1 ∧ LInv 0 a [] v.2.1 io v.2.2.2.2.2.2.2.2.2 gs) ?_ ?_
  · refine xf one_n0 ?_
    obtain ⟨zw, w1, w2⟩ := would_ok h hg.1 su s0 s1 s2 s3 td be im (nI 0) 0
    refine xb w1 (xf (by rw [w2]; exact one_n0) (xb (undo_0 hI.2.2.1) (xt rfl (xs ⟨rfl, hI⟩))))
  rintro ⟨_, f2, su2, t0, t1, t2, t3, td2, be2, im2⟩ ⟨hv, hI2⟩
  have hv : _ = (1 : Int32) := hv
  subst hv
  dsimp only
  dsimp only at hI2
  obtain ⟨r, r1, r2, a2, r3, r4⟩ := itr_gen (step := SL_law_40 L zs) 44 LawI (fun r => r.1 = 1 ∧ ∃ a, RepC a r.2.1 ∧ GoodA 2640 a) (fun k s hk hs => by
    rcases Nat.lt_or_ge k 44 with q | q
    · exact Or.inl ⟨q, law_iter hL q hs⟩
    · right
      have : k = 44 := by omega
      subst this
      obtain ⟨a, H, f, tr, su, s0, s1, s2, s3, td, be, io, im, gs, n, at0, fp, fr, fc, sg, nb, rfl, hn60, hI⟩ := hs
      refine ⟨_, if_pos (show (44 : Int32) ≤ nI 44 by decide), rfl, a, hI.1, hI.2.1⟩) FU (1, 0, f2, tr, su2, t0, t1, t2, t3, td2, be2, io, im2, gs, nI 0, at0, fp, fr, fc, sg, nb) (FU_lt (by decide)) ⟨a, [], f2, tr, su2, t0, t1, t2, t3, td2, be2, io, im2, gs, 0, at0, fp, fr, fc, sg, nb, rfl, by decide, hI2⟩
  refine xb r1 (xf (by rw [r2]; exact one_n0) (xb (holds_ok r3 r4 (by decide) _ _) (xf one_n0 (xs rfl))))
end LAWP
