/-! the text's run, play, fault, type, clearText, count -/
def kC (c q p : Int32) (nb : Nat → Int32) (fp fr fc : Int32) (v : Int32 × (Nat → Int32)) : Option ((Int32 × Int32 × (Nat → Int32) × (Nat → Int32)) ⊕ ((Int32 × Int32 × (Nat → Int32) × (Nat → Int32)) ⊕ (Int32 × Int32 × Int32 × Int32 × Int32 × (Nat → Int32) × (Nat → Int32)))) := if 0 ≤ v.1 then some (.inl ((c + 1), q, nb, v.2)) else (MX2_foundFault fp fr fc p 2 v.1).bind fun v46 => some (.inr (.inr (v46.1, q, v46.2.1, v46.2.2.1, v46.2.2.2, nb, v.2)))
section PLAY
variable {n : Nat} {sg tx : Nat → Int32} {fp fr fc : Int32}
theorem C_order {p c : Nat} {nb f : Nat → Int32} {z : Int32 × Int32 × (Nat → Int32)} (hn : n ≤ 60) (hp : p < n) (hc : c ≤ p) (hz : MX2_readOrder (nI n) (nI p) sg nb = some z) (h1 : z.1 = 1) : SX2_run_7 (nI n) sg fp fr fc (nI c, nI p, nb, f) = (swC (tAt n sg p) z.2.2 f).bind (kC (nI c) z.2.1 (nI p) z.2.2 fp fr fc) := by
  unfold SX2_run_7 swC
  dsimp only
  rw [if_neg (nI_ge hp (by omega)), if_neg (show ¬ (60 : Int32) ≤ nI c from nI_ge (b := 60) (by omega) (by omega)), hz, Option.bind_some, h1, if_neg one_n0, C_sign hn (by omega), Option.bind_some]
  by_cases e1 : tAt n sg p = 97
  · rw [if_pos e1, if_pos e1, Option.bind_assoc]
    rfl
  rw [if_neg e1, if_neg e1]
  by_cases e2 : tAt n sg p = 108
  · rw [if_pos e2, if_pos e2, Option.bind_assoc]
    rfl
  rw [if_neg e2, if_neg e2]
  by_cases e3 : tAt n sg p = 109
  · rw [if_pos e3, if_pos e3, Option.bind_assoc]
    rfl
  rw [if_neg e3, if_neg e3]
  by_cases e4 : tAt n sg p = 115
  · rw [if_pos e4, if_pos e4, Option.bind_assoc]
    cases ldA 3 z.2.2 0 with
    | none => rfl
    | some v =>
      rw [Option.bind_some, Option.bind_some, Option.bind_assoc]
      rfl
  rw [if_neg e4, if_neg e4]
  by_cases e5 : tAt n sg p = 119
  · rw [if_pos e5, if_pos e5, Option.bind_assoc]
    cases ldA 3 z.2.2 0 with
    | none => rfl
    | some v =>
      rw [Option.bind_some, Option.bind_some, Option.bind_assoc]
      cases ldA 3 z.2.2 1 with
      | none => rfl
      | some w =>
        rw [Option.bind_some, Option.bind_some, Option.bind_assoc]
        rfl
  rw [if_neg e5, if_neg e5, Option.bind_assoc]
  rfl
/-- how two runs end -/
def RelR (z : (Int32 × Int32 × (Nat → Int32) × (Nat → Int32)) ⊕ (Int32 × Int32 × Int32 × Int32 × Int32 × (Nat → Int32) × (Nat → Int32))) (w : Int32 × Int32 × Int32 × Int32 × Int32 × Int32 × Int32 × (Nat → Int32) × (Nat → Int32)) : Prop :=
  (∃ c at' nb f a, z = .inl (nI c, at', nb, f) ∧ c < 2 ^ 31 ∧ w.1 = nI c ∧ w.2.2.2.2.2.1 = 0 ∧ Two a f w.2.2.2.2.2.2.2.1) ∨
  (∃ at' p r x nb f, z = .inr (-1, at', p, r, x, nb, f) ∧ w.2.2.1 = p ∧ w.2.2.2.2.2.1 = r ∧ w.2.2.2.2.2.2.1 = x ∧ (r = 1 ∨ r = 2))
theorem run_loop (hn : n ≤ 60) (ht : ∀ k, k < n → sg k = tx k) : ∀ j p c F1 F2 (nb f : Nat → Int32) (bg fm lt mc : Int32) (s tl : Nat → Int32) (a : Abs), n - p ≤ j → p < 2 ^ 17 → c ≤ p → j < F1 → j + 1 < F2 → Two a f s → ∃ z w, itr (SX2_run_7 (nI n) sg fp fr fc) F1 (nI c, nI p, nb, f) = some z ∧ itr (SX6_doesAll_12 (nI n) tx) F2 (nI c, nI p, bg, fm, lt, 0, mc, s, tl) = some w ∧ RelR z w := by
  intro j
  induction j with
  | zero =>
    intro p c F1 F2 nb f bg fm lt mc s tl a hj hp hc hF1 hF2 h
    obtain ⟨F1, rfl⟩ : ∃ G, F1 = G + 1 := ⟨F1 - 1, by omega⟩
    obtain ⟨F2, rfl⟩ : ∃ G, F2 = G + 1 := ⟨F2 - 1, by omega⟩
    refine ⟨_, _, itr_r (step := SX2_run_7 (nI n) sg fp fr fc) (r := .inl (nI c, nI p, nb, f)) (by
      unfold SX2_run_7
      dsimp only
      rw [if_pos (nI_le (by omega) (by omega))]), itr_r (step := SX6_doesAll_12 (nI n) tx) (r := (nI c, nI p, bg, fm, lt, 0, mc, s, tl)) (by
      unfold SX6_doesAll_12
      dsimp only
      rw [if_pos rfl, if_pos (nI_le (by omega) (by omega))]), Or.inl ⟨c, _, _, _, a, rfl, by omega, rfl, rfl, h⟩⟩
  | succ j ih =>
    intro p c F1 F2 nb f bg fm lt mc s tl a hj hp hc hF1 hF2 h
    obtain ⟨F1, rfl⟩ : ∃ G, F1 = G + 1 := ⟨F1 - 1, by omega⟩
    obtain ⟨F2, rfl⟩ : ∃ G, F2 = G + 1 := ⟨F2 - 1, by omega⟩
    by_cases hpn' : n ≤ p
    · refine ⟨_, _, itr_r (step := SX2_run_7 (nI n) sg fp fr fc) (r := .inl (nI c, nI p, nb, f)) (by
        unfold SX2_run_7
        dsimp only
        rw [if_pos (nI_le (by omega) (by omega))]), itr_r (step := SX6_doesAll_12 (nI n) tx) (r := (nI c, nI p, bg, fm, lt, 0, mc, s, tl)) (by
        unfold SX6_doesAll_12
        dsimp only
        rw [if_pos rfl, if_pos (nI_le (by omega) (by omega))]), Or.inl ⟨c, _, _, _, a, rfl, by omega, rfl, rfl, h⟩⟩
    have hpn : p < n := by omega
    obtain ⟨z, w, q, z1, w1, z2, w2, q1, q2, w3, w4, hh⟩ := ord_both hn ht hp nb bg fm lt tl
    -- the other side's first step
    have hM : SX6_doesAll_12 (nI n) tx (nI c, nI p, bg, fm, lt, 0, mc, s, tl) = if w.2.2.1 = 0 then some (.inl (nI c, nI q, nI p, w.2.2.1, tAt n sg p, 1, nI q - nI p, s, w.2.2.2.2)) else (MX6_errorOfOrder (tAt n sg p) s w.2.2.2.2).bind fun v38 => if 0 ≤ v38 then (MX6_doesOrder (tAt n sg p) s w.2.2.2.2).bind fun v55 => some (.inl (nI (c + 1), nI q, nI p, w.2.2.1, tAt n sg p, 0, mc, v55, w.2.2.2.2)) else some (.inl (nI c, nI q, nI p, w.2.2.1, tAt n sg p, 2, v38, s, w.2.2.2.2)) := by
      unfold SX6_doesAll_12
      dsimp only
      rw [if_pos rfl, if_neg (nI_ge hpn (by omega)), w1, Option.bind_some, w2, w3, w4, nI_1]
      by_cases e : w.2.2.1 = 0
      · rw [if_pos e, if_pos e, if_pos e, if_pos e, if_pos e]
      · rw [if_neg e, if_neg e]
        refine congrArg (Option.bind _) (funext fun v38 => ?_)
        rw [if_neg e, if_neg e, if_neg e]
    rcases hh with ⟨y1, y2⟩ | ⟨y1, y2, hpq, hm, L, l1, l2, l3⟩
    · rw [y2, if_pos rfl] at hM
      obtain ⟨F2, rfl⟩ : ∃ G, F2 = G + 1 := ⟨F2 - 1, by omega⟩
      refine ⟨_, _, itr_r (step := SX2_run_7 (nI n) sg fp fr fc) (r := .inr (-1, nI q, nI p, 1, nI q - nI p, z.2.2, f)) (by
        unfold SX2_run_7
        dsimp only
        rw [if_neg (nI_ge hpn (by omega)), if_neg (show ¬ (60 : Int32) ≤ nI c from nI_ge (b := 60) (by omega) (by omega)), z1, Option.bind_some, if_pos y1, z2]
        rfl), (itr_l (step := SX6_doesAll_12 (nI n) tx) hM).trans (itr_r (r := (nI c, nI q, nI p, 0, tAt n sg p, 1, nI q - nI p, s, w.2.2.2.2)) (by
        unfold SX6_doesAll_12
        dsimp only
        rw [if_neg one_n0])), Or.inr ⟨_, _, _, _, _, _, rfl, rfl, rfl, rfl, Or.inl rfl⟩⟩
    · rw [if_neg (by rw [y2]; exact one_n0)] at hM
      have hC := C_order (fp := fp) (fr := fr) (fc := fc) (f := f) hn hpn hc z1 y1
      rcases do_both h hm l1 l2 l3 with ⟨x, x1, x2, x3⟩ | ⟨r, a', g, g', r1, r2, r3, r4, r5⟩
      · have xn : ¬ 0 ≤ x := by
          intro v
          rw [Int32.le_iff_toInt_le] at v
          rw [Int32.lt_iff_toInt_lt] at x1
          omega
        rw [x3, Option.bind_some, if_neg xn] at hM
        rw [x2, Option.bind_some] at hC
        unfold kC at hC
        rw [if_neg xn] at hC
        obtain ⟨F2, rfl⟩ : ∃ G, F2 = G + 1 := ⟨F2 - 1, by omega⟩
        exact ⟨_, _, itr_r (step := SX2_run_7 (nI n) sg fp fr fc) (r := .inr (-1, z.2.1, nI p, 2, x, z.2.2, f)) hC, (itr_l (step := SX6_doesAll_12 (nI n) tx) hM).trans (itr_r (r := (nI c, nI q, nI p, w.2.2.1, tAt n sg p, 2, x, s, w.2.2.2.2)) (by
          unfold SX6_doesAll_12
          dsimp only
          rw [if_neg (show ¬ (2 : Int32) = 0 by decide)])), Or.inr ⟨_, _, _, _, _, _, rfl, rfl, rfl, rfl, Or.inr rfl⟩⟩
      · rw [r3, Option.bind_some, if_pos yy_0, r4, Option.bind_some] at hM
        rw [r2, Option.bind_some] at hC
        unfold kC at hC
        rw [if_pos (show (0 : Int32) ≤ nI r from nI_pos' r1), nI_1, z2] at hC
        rw [itr_l (step := SX2_run_7 (nI n) sg fp fr fc) hC, itr_l (step := SX6_doesAll_12 (nI n) tx) hM]
        exact ih q (c + 1) F1 F2 z.2.2 g (nI p) w.2.2.1 (tAt n sg p) mc g' w.2.2.2.2 a' (by omega) (by omega) (by omega) (by omega) (by omega) r5
theorem run_all {a : Abs} {f s : Nat → Int32} (hn : n ≤ 60) (ht : ∀ k, k < n → sg k = tx k) (h : Two a f s) (at0 : Int32) (nb : Nat → Int32) (sp bg fm lt mr mc : Int32) (tl : Nat → Int32) : ∃ z w, MX2_run (nI n) at0 fp fr fc sg nb f = some z ∧ MX6_doesAll (nI n) sp bg fm lt mr mc s tx tl = some w ∧ ((∃ c a', c < 2 ^ 31 ∧ z.1 = nI c ∧ w.1 = nI c ∧ w.2.2.2.2.2.1 = 0 ∧ Two a' z.2.2.2.2.2.2 w.2.2.2.2.2.2.2.1) ∨ (z.1 = -1 ∧ z.2.2.1 = w.2.2.1 ∧ z.2.2.2.1 = w.2.2.2.2.2.1 ∧ z.2.2.2.2.1 = w.2.2.2.2.2.2.1 ∧ (w.2.2.2.2.2.1 = 1 ∨ w.2.2.2.2.2.1 = 2))) := by
  unfold MX2_run MX6_doesAll
  obtain ⟨z, w, e1, e2, e3⟩ := run_loop (fp := fp) (fr := fr) (fc := fc) hn ht n 0 0 FU FU nb f bg fm lt mc s tl a (by omega) (by omega) (by omega) (FU_lt (by omega)) (FU_lt (by omega)) h
  rw [show itr (SX2_run_7 (nI n) sg fp fr fc) FU (0, 0, nb, f) = some z from e1, show itr (SX6_doesAll_12 (nI n) tx) FU (0, 0, bg, fm, lt, 0, mc, s, tl) = some w from e2, Option.bind_some, Option.bind_some]
  rcases e3 with ⟨c, at', nb', f', a', rfl, c1, c2, c3, c4⟩ | ⟨at', p, r, x, nb', f', rfl, c1, c2, c3, c4⟩
  · exact ⟨_, _, rfl, rfl, Or.inl ⟨c, a', c1, rfl, c2, c3, c4⟩⟩
  · exact ⟨_, _, rfl, rfl, Or.inr ⟨rfl, c1.symm, c2.symm, c3.symm, by rw [c2]; exact c4⟩⟩
theorem copy0 (f g : Nat → Int32) : ∃ v, MX6_copies 703 703 f g 0 0 = some v ∧ ∀ j, j < 703 → v j = f j := by
  obtain ⟨v, v1, v2, _⟩ := M_copies (n0 := 703) (n2 := 703) (o1 := 0) (o3 := 0) f g (by decide) (by decide) (by decide) (by decide)
  refine ⟨v, v1, fun j hj => ?_⟩
  have := v2 j hj
  rw [Nat.zero_add] at this
  exact this
theorem sim_fault {a : Abs} {f s : Nat → Int32} (hn : n ≤ 60) (ht : ∀ k, k < n → sg k = tx k) (h : Two a f s) (tr : Nat → Int32) (at0 : Int32) (nb : Nat → Int32) (sp bg fm lt mr mc : Int32) (be tl : Nat → Int32) (x0 : Int32) : ∃ z w, MX5_fault f tr (nI n) at0 fp fr fc sg nb x0 = some z ∧ MX6_fault (nI n) sp bg fm lt mr mc s be tx tl x0 = some w ∧ z.1 = w.1 ∧ ∀ j, j < 703 → w.2.2.2.2.2.2.2.1 j = s j := by
  unfold MX5_fault MX6_fault
  rcases rng x0 (lo := 0) (hi := 2) (by omega) (by omega) with ⟨k, v1, v2, rfl⟩ | q
  · have hin : MX6_in (nI k) 0 2 = some 1 := in_yes (lo := 0) (hi := 2) v1 v2 (by omega)
    obtain ⟨v, c1, c2⟩ := C_copy tr f
    obtain ⟨u, u1, u2⟩ := copy0 s be
    have hT : Two a v s := two_agree h c2 (fun _ _ => rfl)
    obtain ⟨z, w, e1, e2, e3⟩ := run_all (fp := fp) (fr := fr) (fc := fc) hn ht hT at0 nb sp bg fm lt mr mc tl
    obtain ⟨y, y1, y2⟩ := copy0 u w.2.2.2.2.2.2.2.1
    have hy : ∀ j, j < 703 → y j = s j := fun j hj => (y2 j hj).trans (u2 j hj)
    rw [hin, Option.bind_some, if_neg one_n0, if_neg (show ¬ nI k < 0 from nI_pos (by omega)), if_pos (show nI k ≤ 2 from nI_le (b := 2) v2 (by omega)), c1, Option.bind_some, e1, Option.bind_some, u1, Option.bind_some, e2, Option.bind_some, y1, Option.bind_some]
    rcases e3 with ⟨c, a', d1, d2, d3, d4, d5⟩ | ⟨d1, d2, d3, d4, d5⟩
    · rw [d2, if_pos (nI_pos' d1), if_pos d4]
      exact ⟨_, _, rfl, rfl, rfl, hy⟩
    · have nz : ¬ w.2.2.2.2.2.1 = 0 := by
        rcases d5 with d5 | d5
        · rw [d5]; decide
        · rw [d5]; decide
      rw [d1, if_neg (show ¬ (0 : Int32) ≤ -1 by decide), if_neg nz]
      unfold MX2_ofFault
      by_cases k0 : nI k = 0
      · rw [if_pos k0, if_pos k0, Option.bind_some]
        exact ⟨_, _, rfl, rfl, d2, hy⟩
      · rw [if_neg k0, if_neg k0]
        by_cases k1 : nI k = 1
        · rw [if_pos k1, if_pos k1, Option.bind_some]
          exact ⟨_, _, rfl, rfl, d3, hy⟩
        · rw [if_neg k1, if_neg k1, Option.bind_some]
          exact ⟨_, _, rfl, rfl, d4, hy⟩
  · have hin : MX6_in x0 0 2 = some 0 := in_no q
    rw [hin, Option.bind_some, if_pos rfl]
    by_cases q1 : x0 < 0
    · rw [if_pos q1]
      exact ⟨_, _, rfl, rfl, rfl, fun _ _ => rfl⟩
    · rw [if_neg q1, if_neg (by
        rcases q with q | q
        · exact absurd q q1
        · exact not_le_of q)]
      exact ⟨_, _, rfl, rfl, rfl, fun _ _ => rfl⟩
theorem sim_play {a : Abs} {f s pa : Nat → Int32} {io im kn : Int32} {gs : Nat → Nat → Int32} {H : List Abs} (hn : n ≤ 60) (ht : ∀ k, k < n → sg k = tx k) (h : Two a f s) (hh : His H io im kn gs pa) (tr : Nat → Int32) (at0 : Int32) (nb : Nat → Int32) (sp bg fm lt mr mc : Int32) (be tl : Nat → Int32) : ∃ z w a' H', MX5_play f tr io im gs (nI n) at0 fp fr fc sg nb = some z ∧ MX6_play kn (nI n) sp bg fm lt mr mc s be pa tx tl = some w ∧ z.1 = w.1 ∧ Two a' z.2.1 w.2.2.2.2.2.2.2.2.1 ∧ His H' z.2.2.2.1 z.2.2.2.2.1 w.2.1 z.2.2.2.2.2.1 w.2.2.2.2.2.2.2.2.2.2.1 := by
  unfold MX5_play MX6_play
  obtain ⟨v, c1, c2⟩ := C_copy tr f
  obtain ⟨u, u1, u2⟩ := copy0 s be
  have hT : Two a v s := two_agree h c2 (fun _ _ => rfl)
  obtain ⟨z, w, e1, e2, e3⟩ := run_all (fp := fp) (fr := fr) (fc := fc) hn ht hT at0 nb sp bg fm lt mr mc tl
  obtain ⟨y, y1, y2⟩ := copy0 u w.2.2.2.2.2.2.2.1
  have hy : ∀ j, j < 703 → y j = s j := fun j hj => (y2 j hj).trans (u2 j hj)
  have hT2 : Two a f y := two_agree h (fun _ _ => rfl) hy
  rw [c1, Option.bind_some, e1, Option.bind_some, u1, Option.bind_some, e2, Option.bind_some, y1, Option.bind_some]
  rcases e3 with ⟨c, a', d1, d2, d3, d4, d5⟩ | ⟨d1, d2, d3, d4, d5⟩
  · rw [d2, if_pos (nI_pos' d1), d4, if_pos (show (0 : Int32) ≤ 0 by decide)]
    obtain ⟨z', w', k1, k2, k3⟩ := run_all (fp := fp) (fr := fr) (fc := fc) hn ht (two_agree h c2 hy : Two a v y) at0 nb w.2.1 w.2.2.1 w.2.2.2.1 w.2.2.2.2.1 0 w.2.2.2.2.2.2.1 w.2.2.2.2.2.2.2.2
    rw [e1] at k1
    obtain rfl := Option.some.inj k1
    obtain ⟨v1, R, io', im', m1, m2, m3, m4, m5, m6⟩ := hist_step hT2 hh
    obtain ⟨t, t1, t2⟩ := C_copy f z.2.2.2.2.2.2
    rw [m1, Option.bind_some, t1, Option.bind_some, m3 (nI c) (nI_pos' d1), Option.bind_some, m2, Option.bind_some, k2, Option.bind_some]
    rcases k3 with ⟨c', b', g1, g2, g3, g4, g5⟩ | ⟨g1, _⟩
    · have hcc : nI c = nI c' := d2.symm.trans g2
      exact ⟨_, _, b', pushH H a, rfl, rfl, hcc.trans g3.symm, two_agree g5 t2 (fun _ _ => rfl), m6⟩
    · rw [d2] at g1
      exact absurd g1 (m1_ne c d1)
  · have nz : ¬ w.2.2.2.2.2.1 ≤ 0 := by
      rcases d5 with d5 | d5
      · rw [d5]; decide
      · rw [d5]; decide
    rw [d1, if_neg (show ¬ (0 : Int32) ≤ -1 by decide), if_neg nz]
    exact ⟨_, _, a, H, rfl, rfl, rfl, hT2, hh⟩
theorem sim_type (hn : n ≤ 60) (ht : ∀ k, k < n → sg k = tx k) (x0 : Int32) : ∃ z w m, MX5_type (nI n) sg x0 = some z ∧ MX6_type (nI n) tx x0 = some w ∧ z.1 = w.1 ∧ z.2.1 = nI m ∧ w.2.1 = nI m ∧ m ≤ 60 ∧ ∀ k, k < m → z.2.2 k = w.2.2 k := by
  unfold MX5_type MX2_append MX6_type
  rcases rng x0 (lo := 32) (hi := 126) (by omega) (by omega) with ⟨k, v1, v2, rfl⟩ | q
  · have hin : MX6_in (nI k) 32 126 = some 1 := in_yes (lo := 32) (hi := 126) v1 v2 (by omega)
    rw [hin, Option.bind_some, if_neg one_n0, if_neg (show ¬ nI k < 32 from (rng_no v1 v2 (by omega)).1), if_pos (show nI k ≤ 126 from nI_le (b := 126) v2 (by omega)), if_neg (nI_pos (by omega))]
    by_cases y : n = 60
    · subst y
      rw [if_neg (show ¬ nI 60 < 60 by decide), if_pos (show nI 60 = 60 from rfl), Option.bind_some]
      exact ⟨_, _, 60, rfl, rfl, rfl, rfl, rfl, hn, ht⟩
    · rw [if_pos (show nI n < 60 from nI_lt (b := 60) (by omega) (by omega)), if_neg (show ¬ nI n = 60 from fun z => y ((nI_eq (b := 60) (by omega) (by omega)).mp z)), stA_nI _ (by omega) (by decide), stA_nI _ (by omega) (by decide), Option.bind_some, Option.bind_some, Option.bind_some, nI_1]
      refine ⟨_, _, n + 1, rfl, rfl, rfl, rfl, rfl, by omega, fun i hi => ?_⟩
      show upd sg n (nI k) i = upd tx n (nI k) i
      by_cases w : i = n
      · subst w; rw [pk_us, pk_us]
      · rw [pk_un w, pk_un w, ht i (by omega)]
  · have hin : MX6_in x0 32 126 = some 0 := in_no q
    rw [hin, Option.bind_some, if_pos rfl]
    by_cases q1 : x0 < 32
    · rw [if_pos q1, Option.bind_some]
      exact ⟨_, _, n, rfl, rfl, rfl, rfl, rfl, hn, ht⟩
    · rw [if_neg q1, if_neg (by
        rcases q with q | q
        · exact absurd q q1
        · exact not_le_of q), Option.bind_some]
      exact ⟨_, _, n, rfl, rfl, rfl, rfl, rfl, hn, ht⟩
end PLAY
