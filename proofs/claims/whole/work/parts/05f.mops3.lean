/-! the reference: places, settings, beginning anew -/
section MOPS3
variable {a : Abs} {s : Nat → Int32}
theorem M_swap (h : RepN a s) (hw : RepW a s) (hi : aInv a) {x y : Nat} (hx : x < aG a 0) (hy : y < aG a 0) : ∃ g, MX6_goSwap s (nI x) (nI y) = some (nI (aSwap a x y).1, g) ∧ RepN (aSwap a x y).2 g ∧ RepW (aSwap a x y).2 g := by
  have hn := hi.1
  have px := (hi.2.2.2.2.1 x hx).1
  have py := (hi.2.2.2.2.1 y hy).1
  unfold MX6_goSwap
  rw [M_pl h hi hx, Option.bind_some, M_pl h hi hy, Option.bind_some]
  have hd : (if 0 ≤ nI (aF a 0 x) - nI (aF a 0 y) then some (nI (aF a 0 x) - nI (aF a 0 y)) else some (-(nI (aF a 0 x) - nI (aF a 0 y)))) = some (nI (if aF a 0 x ≤ aF a 0 y then aF a 0 y - aF a 0 x else aF a 0 x - aF a 0 y)) := by
    rcases Nat.lt_trichotomy (aF a 0 x) (aF a 0 y) with z | z | z
    · rw [if_neg (fun w => absurd (pk_sneg (by omega) z) (by rw [Int32.lt_iff_toInt_lt]; have := Int32.le_iff_toInt_le.mp w; exact Int.not_lt.mpr this)), if_pos (Nat.le_of_lt z)]
      rw [← pk_sub (Nat.le_of_lt z)]
      congr 1
      apply Int32.toBitVec_inj.mp
      simp
    · rw [z, if_pos (by rw [Int32.sub_self]; decide), if_pos (Nat.le_refl _), Int32.sub_self, Nat.sub_self]
      rfl
    · rw [pk_sub (Nat.le_of_lt z), if_pos (nI_pos' (by omega)), if_neg (by omega)]
  rw [hd, Option.bind_some, Option.bind_some, Option.bind_some, show (0 : Int32) = nI 0 from rfl, M_lays s _ (by omega) (by decide), Option.bind_some, M_lays _ _ (by omega) (by decide), Option.bind_some]
  have k1 := rN_pl h hn.2 (len16 hi) (r := x) (aF a 0 y) hx
  have k2 := rN_pl k1 hn.2 (show ∀ q, q < aG a 0 → (aM a q).length ≤ 16 from len16 hi) (r := y) (aF a 0 x) hy
  have hn0 : ldA 703 (upd (upd s (10 + 77 * x + 0) (nI (aF a 0 y))) (10 + 77 * y + 0) (nI (aF a 0 x))) (nI 0) = some (nI (aG a 0)) := (M_n k2 :)
  rw [hn0, Option.bind_some, Option.bind_some]
  refine ⟨upd (upd s (10 + 77 * x + 0) (nI (aF a 0 y))) (10 + 77 * y + 0) (nI (aF a 0 x)), ?_, ?_, ?_⟩
  · show (if nI (if aF a 0 x ≤ aF a 0 y then aF a 0 y - aF a 0 x else aF a 0 x - aF a 0 y) ≤ _ then _ else _) = some (nI (aFar a x y), _)
    unfold aFar
    dsimp only
    generalize hD : (if aF a 0 x ≤ aF a 0 y then aF a 0 y - aF a 0 x else aF a 0 x - aF a 0 y) = d
    have hdl : d ≤ aG a 0 := by rw [← hD]; split <;> omega
    rw [pk_sub hdl]
    rcases Nat.lt_or_ge (aG a 0 - d) d with z | z
    · rw [if_neg (nI_ge z (by omega)), Nat.min_eq_right (Nat.le_of_lt z)]
    · rw [if_pos (nI_le z (by omega)), Nat.min_eq_left z]
  · obtain ⟨w1, w2, w3, w4⟩ := k2
    refine ⟨w1, w2, fun r hr => ?_, w4⟩
    obtain ⟨v1, v2, v3, v4, v5⟩ := w3 r hr
    exact ⟨v1, v2, v3, v4, v5⟩
  · refine rW_o hw hn.2 rfl (fun r => ?_) rfl rfl (fun p j p1 p2 p3 => by rw [pk_un (ne_row (by omega) (by omega) (by omega)), pk_un (ne_row (by omega) (by omega) (by omega))])
    rfl
theorem M_set (h : RepN a s) (hw : RepW a s) (hi : aInv a) {w x : Nat} (hw1 : w ≤ 1) (h1 : 1 ≤ x) (h2 : x ≤ if w = 0 then 16 else 99) : ∃ g, (ldA 703 s (2 + nI w)).bind (fun v20 => (stA 703 s (2 + nI w) (nI x)).bind fun g23 => (itr (SX6_set_56) FU (0, g23)).bind fun j27 => some (v20, j27)) = some (nI (aSet a w x).1, g) ∧ RepN (aSet a w x).2 g ∧ RepW (aSet a w x).2 g := by
  have hn := hi.1
  have hb := hi.2.2.1
  rw [show (2 : Int32) = nI 2 from rfl, nI_add, ldM s (by omega), Option.bind_some, stM s _ (by omega), Option.bind_some]
  have hold : s (2 + w) = nI (aG a (2 + w)) := by
    rcases (show w = 0 ∨ w = 1 by omega) with rfl | rfl
    · exact h.1.2.2.1
    · exact h.1.2.2.2
  have k0 : RepN (sG a (2 + w) x) (upd s (2 + w) (nI x)) := by
    rcases (show w = 0 ∨ w = 1 by omega) with rfl | rfl
    · exact rN_brs h hn.2 (len16 hi) x
    · exact rN_fds h hn.2 (len16 hi) x
  have hG0 : aG (sG a (2 + w) x) 0 = aG a 0 := aG_r _ _ (by omega)
  generalize hB : aG (sG a (2 + w) x) 2 = B
  have hB1 : 1 ≤ B ∧ B ≤ 16 := by
    rw [← hB]
    rcases (show w = 0 ∨ w = 1 by omega) with rfl | rfl
    · rw [if_pos rfl] at h2
      exact ⟨by rw [aG_s]; exact h1, by rw [aG_s]; exact h2⟩
    · rw [aG_r _ _ (by decide)]
      exact hb
  have hkw : keepW (aG a 0) (upd s (2 + w) (nI x)) s := keepW.rfl'.upd (fun r k _ _ _ => by omega)
  obtain ⟨g, hg, q1, q2⟩ := itr_gen (step := SX6_set_56) (aG a 0)
    (fun k y => y.1 = nI k ∧ RepN (sMall (sG a (2 + w) x) (fun r => if r < k then (aM a r).drop ((aM a r).length - B) else aM a r)) y.2 ∧ keepW (aG a 0) y.2 s)
    (fun g => RepN (sMall (sG a (2 + w) x) (fun r => (aM a r).drop ((aM a r).length - B))) g ∧ keepW (aG a 0) g s) (by
      rintro k ⟨y, g⟩ hk ⟨q1, q2, q3⟩
      dsimp only at q1 q2 q3
      subst q1
      unfold SX6_set_56
      dsimp only
      have hget : ldA 703 g 0 = some (nI (aG a 0)) := by
        have := M_n q2
        rw [show aG (sMall (sG a (2 + w) x) (fun r => if r < k then (aM a r).drop ((aM a r).length - B) else aM a r)) 0 = aG a 0 from hG0] at this
        exact this
      rw [hget, Option.bind_some]
      rcases Nat.lt_or_ge k (aG a 0) with z | z
      · left
        refine ⟨z, ?_⟩
        have hlen := inv_len hi z
        rw [if_neg (nI_ge z (by omega))]
        -- the margin of row k loses its first echoes, one by one
        obtain ⟨g', p1, p2, p3⟩ := itr_gen (step := SX6_set_67 (nI k, g)) ((aM a k).length - B)
          (fun j g => RepN (sMall (sG a (2 + w) x) (fun r => if r < k then (aM a r).drop ((aM a r).length - B) else if r = k then (aM a k).drop j else aM a r)) g ∧ keepW (aG a 0) g s)
          (fun g => RepN (sMall (sG a (2 + w) x) (fun r => if r < k + 1 then (aM a r).drop ((aM a r).length - B) else aM a r)) g ∧ keepW (aG a 0) g s) (by
            rintro j g hj ⟨m1, m2⟩
            unfold SX6_set_67
            have hMk : aM (sMall (sG a (2 + w) x) (fun r => if r < k then (aM a r).drop ((aM a r).length - B) else if r = k then (aM a k).drop j else aM a r)) k = (aM a k).drop j := by
              show (if k < k then _ else if k = k then (aM a k).drop j else aM a k) = _
              rw [if_neg (Nat.lt_irrefl k), if_pos rfl]
            have hk2 : k < aG (sMall (sG a (2 + w) x) (fun r => if r < k then (aM a r).drop ((aM a r).length - B) else if r = k then (aM a k).drop j else aM a r)) 0 := by
              show k < aG (sG a (2 + w) x) 0
              rw [hG0]; exact z
            have hec : MX6_of g (nI k) 4 = some (nI ((aM a k).length - j)) := by
              rw [show (4 : Int32) = nI 4 from rfl, M_of g (by omega) (by decide), (m1.2.2.1 k hk2).2.2.2.2, hMk, List.length_drop]
            have hbr : ldA 703 g 2 = some (nI B) := by
              have := M_brs m1
              rw [show aG (sMall (sG a (2 + w) x) (fun r => if r < k then (aM a r).drop ((aM a r).length - B) else if r = k then (aM a k).drop j else aM a r)) 2 = B from hB] at this
              exact this
            show _ ∨ ∃ r, (MX6_of g (nI k) 4).bind _ = _ ∧ _
            rcases Nat.lt_or_ge j ((aM a k).length - B) with y | y
            · left
              refine ⟨y, ?_⟩
              show ∃ s', (MX6_of g (nI k) 4).bind _ = _ ∧ _
              rw [hec, Option.bind_some, hbr, Option.bind_some, if_neg (nI_ge (by omega) (by omega))]
              have hn9 : aG (sMall (sG a (2 + w) x) (fun r => if r < k then (aM a r).drop ((aM a r).length - B) else if r = k then (aM a k).drop j else aM a r)) 0 ≤ 9 := by
                show aG (sG a (2 + w) x) 0 ≤ 9
                rw [hG0]; exact hn.2
              obtain ⟨g', u1, u2, u3⟩ := M_drops m1 hn9 (fun q hq => by
                have hq' : q < aG a 0 := by rw [← hG0]; exact hq
                have := inv_len hi hq'
                show (if q < k then (aM a q).drop ((aM a q).length - B) else if q = k then (aM a k).drop j else aM a q).length ≤ 16
                split
                · rw [List.length_drop]; omega
                · split
                  · rw [List.length_drop]; omega
                  · exact this) (b := k) (k := 0) hk2 (by rw [hMk, List.length_drop]; omega)
              have u1' : MX6_drops g (nI k) 0 = some g' := u1
              rw [u1', Option.bind_some]
              refine ⟨_, rfl, RepN_congr u2 (fun _ => rfl) (fun _ => rfl) (fun _ _ => rfl) (fun _ _ => rfl) (fun q => ?_), ?_⟩
              · rw [hMk]
                show (if q < k then (aM a q).drop ((aM a q).length - B) else if q = k then (aM a k).drop (j + 1) else aM a q) = up1 (fun r => if r < k then (aM a r).drop ((aM a r).length - B) else if r = k then (aM a k).drop j else aM a r) k (((aM a k).drop j).eraseIdx 0) q
                by_cases v : q = k
                · subst v
                  rw [up1_s, if_neg (Nat.lt_irrefl q), if_pos rfl, List.eraseIdx_zero, List.tail_drop]
                · rw [up1_n _ _ v]
                  show _ = (if q < k then (aM a q).drop ((aM a q).length - B) else if q = k then (aM a k).drop j else aM a q)
                  rw [if_neg v, if_neg v]
              · refine m2.trans (fun p t p1 p2 p3 => u3 p t ?_ p2 p3)
                show p < aG (sG a (2 + w) x) 0
                rw [hG0]; exact p1
            · right
              have : j = (aM a k).length - B := by omega
              subst this
              rw [hec, Option.bind_some, hbr, Option.bind_some, if_pos (nI_le (by omega) (by omega))]
              refine ⟨_, rfl, RepN_congr m1 (fun _ => rfl) (fun _ => rfl) (fun _ _ => rfl) (fun _ _ => rfl) (fun q => ?_), m2⟩
              show (if q < k + 1 then (aM a q).drop ((aM a q).length - B) else aM a q) = (if q < k then (aM a q).drop ((aM a q).length - B) else if q = k then (aM a k).drop ((aM a k).length - B) else aM a q)
              by_cases v : q = k
              · subst v
                rw [if_pos (by omega), if_neg (Nat.lt_irrefl q), if_pos rfl]
              · rw [if_neg v]
                by_cases v2 : q < k
                · rw [if_pos v2, if_pos (by omega)]
                · rw [if_neg v2, if_neg (by omega)]) FU g (FU_lt (by omega)) ⟨RepN_congr q2 (fun _ => rfl) (fun _ => rfl) (fun _ _ => rfl) (fun _ _ => rfl) (fun q => by
              show (if q < k then (aM a q).drop ((aM a q).length - B) else if q = k then (aM a k).drop 0 else aM a q) = (if q < k then (aM a q).drop ((aM a q).length - B) else aM a q)
              by_cases v : q = k
              · subst v
                rw [if_neg (Nat.lt_irrefl q), if_pos rfl, if_neg (Nat.lt_irrefl q), List.drop_zero]
              · rw [if_neg v]), q3⟩
        rw [p1, Option.bind_some]
        exact ⟨_, rfl, nI_1 k, p2, p3⟩
      · right
        have : k = aG a 0 := by omega
        subst this
        rw [if_pos (nI_le (Nat.le_refl _) (by omega))]
        refine ⟨_, rfl, ?_, q3⟩
        obtain ⟨w1, w2, w3, w5⟩ := q2
        have hG1 : ∀ r, r < aG (sG a (2 + w) x) 0 → r < aG a 0 := fun r hr => by rw [← hG0]; exact hr
        refine ⟨w1, w2, fun r hr => ?_, fun r k e hr he => ?_⟩
        · have := w3 r hr
          refine ⟨this.1, this.2.1, this.2.2.1, this.2.2.2.1, this.2.2.2.2.trans ?_⟩
          show nI (if r < aG a 0 then (aM a r).drop ((aM a r).length - B) else aM a r).length = _
          rw [if_pos (hG1 r hr)]
          rfl
        · refine w5 r k e hr ?_
          show (if r < aG a 0 then (aM a r).drop ((aM a r).length - B) else aM a r)[k]? = some e
          rw [if_pos (hG1 r hr)]
          exact he) FU (0, upd s (2 + w) (nI x)) (FU_lt (by omega)) ⟨rfl, RepN_congr k0 (fun _ => rfl) (fun _ => rfl) (fun _ _ => rfl) (fun _ _ => rfl) (fun p => show (if p < 0 then (aM a p).drop ((aM a p).length - B) else aM a p) = aM a p from if_neg (Nat.not_lt_zero p)), hkw⟩
  rw [hg, Option.bind_some, hold]
  refine ⟨g, rfl, ?_, ?_⟩
  · show RepN (sMall (sG a (2 + w) x) (fun r => (aM a r).drop ((aM a r).length - aG (sG a (2 + w) x) 2))) g
    rw [hB]
    exact q1
  · exact rW_o hw hn.2 hG0 (fun _ => rfl) rfl rfl q2
theorem M_begin (h : RepN a s) (hi : aInv a) {n : Nat} (hn1 : 3 ≤ n) (hn2 : n ≤ 9) : ∃ g, MX6_goBegin s (nI n) = some (nI (aBegin a n).1, g) ∧ RepN (aBegin a n).2 g ∧ RepW (aBegin a n).2 g := by
  unfold MX6_goBegin
  rw [show (0 : Int32) = nI 0 from rfl, stM s _ (by decide), Option.bind_some]
  obtain ⟨g1, hg1, q1, q2⟩ := itr_gen (step := SX6_goBegin_9) 699
    (fun k y => y.1 = nI (4 + k) ∧ (∀ j, j < 4 → y.2 j = upd s 0 (nI n) j) ∧ (∀ j, 4 ≤ j → j < 4 + k → y.2 j = 0))
    (fun g => (∀ j, j < 4 → g j = upd s 0 (nI n) j) ∧ (∀ j, 4 ≤ j → j < 703 → g j = 0)) (by
      rintro k ⟨x, g⟩ hk ⟨q1, q2, q3⟩
      dsimp only at q1 q2 q3
      subst q1
      unfold SX6_goBegin_9
      dsimp only
      rcases Nat.lt_or_ge k 699 with z | z
      · left
        refine ⟨z, ?_⟩
        rw [if_neg (show ¬ (703 : Int32) ≤ nI (4 + k) from nI_ge (b := 703) (by omega) (by decide)), stM g _ (by omega), Option.bind_some]
        refine ⟨_, rfl, nI_1 _, fun j hj => ?_, fun j h1 h2 => ?_⟩
        · dsimp only
          rw [pk_un (by omega)]
          exact q2 j hj
        · dsimp only
          by_cases y : j = 4 + k
          · subst y; exact pk_us
          · rw [pk_un y]
            exact q3 j h1 (by omega)
      · right
        have : k = 699 := by omega
        subst this
        rw [if_pos (by decide)]
        exact ⟨g, rfl, q2, q3⟩) FU (4, upd s 0 (nI n)) (FU_lt (by decide)) ⟨rfl, fun _ _ => rfl, fun j h1 h2 => by omega⟩
  rw [hg1, Option.bind_some]
  obtain ⟨g2, hg2, r1, r2, r3⟩ := itr_gen (step := SX6_goBegin_31 (nI n)) n
    (fun k y => y.1 = nI k ∧ (∀ j, j < 10 → y.2 j = g1 j) ∧ (∀ r t, r < n → t < 77 → y.2 (10 + 77 * r + t) = (if r < k then (if t = 0 then nI r else if t = 1 then 1 else if 5 ≤ t ∧ t < 13 then 1 else 0) else 0)))
    (fun g => (∀ j, j < 10 → g j = g1 j) ∧ (∀ r t, r < n → t < 77 → g (10 + 77 * r + t) = (if t = 0 then nI r else if t = 1 then 1 else if 5 ≤ t ∧ t < 13 then 1 else 0)) ∧ True) (by
      rintro k ⟨x, g⟩ hk ⟨q1, q2, q3⟩
      dsimp only at q1 q2 q3
      subst q1
      unfold SX6_goBegin_31
      dsimp only
      rcases Nat.lt_or_ge k n with z | z
      · left
        refine ⟨z, ?_⟩
        rw [if_neg (nI_ge z (by omega)), show (0 : Int32) = nI 0 from rfl, show (1 : Int32) = nI 1 from rfl, M_lays g _ (by omega) (by decide), Option.bind_some, M_lays _ _ (by omega) (by decide), Option.bind_some]
        obtain ⟨g', hg', p1, p2, p3⟩ := itr_gen (step := SX6_goBegin_52 (nI k, g)) 8
          (fun c y => y.1 = nI c ∧ (∀ j, ¬ (10 + 77 * k + 5 ≤ j ∧ j < 10 + 77 * k + 13) → y.2 j = upd (upd g (10 + 77 * k + 0) (nI k)) (10 + 77 * k + 1) (nI 1) j) ∧ (∀ t, t < c → y.2 (10 + 77 * k + 5 + t) = 1))
          (fun g' => (∀ j, ¬ (10 + 77 * k + 5 ≤ j ∧ j < 10 + 77 * k + 13) → g' j = upd (upd g (10 + 77 * k + 0) (nI k)) (10 + 77 * k + 1) (nI 1) j) ∧ (∀ t, t < 8 → g' (10 + 77 * k + 5 + t) = 1) ∧ True) (by
            rintro c ⟨x, y⟩ hc ⟨m1, m2, m3⟩
            dsimp only at m1 m2 m3
            subst m1
            unfold SX6_goBegin_52
            dsimp only
            rcases Nat.lt_or_ge c 8 with v | v
            · left
              refine ⟨v, ?_⟩
              rw [if_neg (show ¬ (8 : Int32) ≤ nI c from nI_ge (b := 8) v (by decide)), show (5 : Int32) = nI 5 from rfl, nI_add, M_lays y _ (by omega) (by omega), Option.bind_some]
              refine ⟨_, rfl, nI_1 c, fun j hj => ?_, fun t ht => ?_⟩
              · dsimp only
                rw [pk_un (by omega)]
                exact m2 j hj
              · dsimp only
                by_cases u : t = c
                · subst u
                  rw [show 10 + 77 * k + 5 + t = 10 + 77 * k + (5 + t) by omega, pk_us]
                · rw [pk_un (by omega)]
                  exact m3 t (by omega)
            · right
              have : c = 8 := by omega
              subst this
              rw [if_pos (by decide)]
              exact ⟨_, rfl, m2, m3, trivial⟩) FU (0, upd (upd g (10 + 77 * k + 0) (nI k)) (10 + 77 * k + 1) (nI 1)) (FU_lt (by decide)) ⟨rfl, fun _ _ => rfl, fun t ht => absurd ht (Nat.not_lt_zero t)⟩
        have hg'' : itr (SX6_goBegin_52 (nI k, g)) FU (nI 0, upd (upd g (10 + 77 * k + 0) (nI k)) (10 + 77 * k + 1) (nI 1)) = some g' := hg'
        rw [hg'', Option.bind_some]
        refine ⟨_, rfl, nI_1 k, fun j hj => ?_, fun r t hr ht => ?_⟩
        · dsimp only
          rw [p1 j (by omega), pk_un (by omega), pk_un (by omega)]
          exact q2 j hj
        · dsimp only
          by_cases u : r = k
          · subst u
            rw [if_pos (by omega)]
            by_cases t5 : 5 ≤ t ∧ t < 13
            · have := p2 (t - 5) (by omega)
              rw [show 10 + 77 * r + 5 + (t - 5) = 10 + 77 * r + t by omega] at this
              rw [this, if_neg (by omega), if_neg (by omega), if_pos t5]
              try rfl
            · rw [p1 _ (by omega), if_neg t5]
              by_cases t1 : t = 1
              · subst t1
                rw [pk_us, if_neg (by decide), if_pos rfl]
                try rfl
              · rw [pk_un (by omega), if_neg t1]
                by_cases t0 : t = 0
                · subst t0
                  rw [pk_us, if_pos rfl]
                · rw [pk_un (by omega), if_neg t0, q3 r t hr ht, if_neg (Nat.lt_irrefl r)]
                  try rfl
          · rw [p1 _ (by
              rcases Nat.lt_trichotomy r k with u1 | u1 | u1
              · omega
              · exact absurd u1 u
              · omega), pk_un (ne_row (by omega) (by omega) (by omega)), pk_un (ne_row (by omega) (by omega) (by omega)), q3 r t hr ht]
            by_cases u2 : r < k
            · rw [if_pos u2, if_pos (show r < k + 1 by omega)]
              try rfl
            · rw [if_neg u2, if_neg (show ¬ r < k + 1 by omega)]
              try rfl
      · right
        have : k = n := by omega
        subst this
        rw [if_pos (nI_le (Nat.le_refl _) (by omega))]
        exact ⟨g, rfl, q2, fun r t hr ht => by rw [q3 r t hr ht, if_pos hr], trivial⟩) FU (0, g1) (FU_lt (by omega)) ⟨rfl, fun _ _ => rfl, fun r t hr ht => by
        dsimp only
        rw [if_neg (Nat.not_lt_zero r)]
        exact q2 _ (by omega) (by omega)⟩
  have hg2' : itr (SX6_goBegin_31 (nI n)) FU (nI 0, g1) = some g2 := hg2
  rw [hg2', Option.bind_some]
  have G0 : aG (aFresh a n) 0 = n := fr_0 a n
  have hN : RepN (aFresh a n) g2 := by
    refine ⟨⟨?_, ?_, ?_, ?_⟩, fun i p q => (r1 i q).trans (q2 i p (by omega)), fun r hr => ?_, fun r k e hr he => absurd (show (([] : List Ech)[k]? = some e) from he) (by simp)⟩
    · rw [r1 1 (by decide), q1 1 (by decide), pk_un (by decide), h.1.1]
      exact congrArg nI (fr_i a n (by decide)).symm
    · rw [r1 0 (by decide), q1 0 (by decide), pk_us, G0]
    · rw [r1 2 (by decide), q1 2 (by decide), pk_un (by decide), h.1.2.2.1]
      exact congrArg nI (fr_i a n (by decide)).symm
    · rw [r1 3 (by decide), q1 3 (by decide), pk_un (by decide), h.1.2.2.2]
      exact congrArg nI (fr_i a n (by decide)).symm
    · rw [G0] at hr
      exact ⟨r2 r 0 hr (by decide), r2 r 1 hr (by decide), r2 r 2 hr (by decide), r2 r 3 hr (by decide), r2 r 4 hr (by decide)⟩
  have hW : RepW (aFresh a n) g2 := by
    intro r c hr hc
    rw [G0] at hr
    refine ⟨?_, fun w => ?_, ?_⟩
    · rw [r2 r (5 + c) hr (by omega), if_neg (by omega), if_neg (by omega), if_pos (by omega)]
      rfl
    · exact absurd (show (1 : Nat) = 0 from w) (by decide)
    · rw [r2 r (21 + c) hr (by omega), if_neg (by omega), if_neg (by omega), if_neg (by omega)]
      rfl
  have hiF : aInv (aFresh a n) := fresh_inv a hi.2.1 hi.2.2.1 hi.2.2.2.1 ⟨hn1, hn2⟩
  obtain ⟨g3, hg3, s1, s2⟩ := itr_gen (step := SX6_goBegin_83 (nI n)) n
    (fun k y => y.1 = nI k ∧ RepN (aLayRows (aFresh a n) k) y.2 ∧ RepW (aLayRows (aFresh a n) k) y.2)
    (fun g => RepN (aLayRows (aFresh a n) n) g ∧ RepW (aLayRows (aFresh a n) n) g) (by
      rintro k ⟨x, g⟩ hk ⟨q1, q2, q3⟩
      dsimp only at q1 q2 q3
      subst q1
      unfold SX6_goBegin_83
      dsimp only
      rcases Nat.lt_or_ge k n with z | z
      · left
        refine ⟨z, ?_⟩
        obtain ⟨h1, h2, -, -, -⟩ := rows_inv hiF k (by rw [G0]; omega)
        obtain ⟨g', p1, p2, p3⟩ := M_laysRow q2 q3 h1 (r := k) (by rw [h2, G0]; exact z)
        rw [if_neg (nI_ge z (by omega)), p1, Option.bind_some]
        exact ⟨_, rfl, nI_1 k, p2, p3⟩
      · right
        have : k = n := by omega
        subst this
        rw [if_pos (nI_le (Nat.le_refl _) (by omega))]
        exact ⟨g, rfl, q2, q3⟩) FU (0, g2) (FU_lt (by omega)) ⟨rfl, hN, hW⟩
  have hg3' : itr (SX6_goBegin_83 (nI n)) FU (nI 0, g2) = some g3 := hg3
  rw [hg3', Option.bind_some]
  obtain ⟨h1, h2, h3, h4, h5⟩ := rows_inv hiF n (by rw [G0]; omega)
  have hGn : aG (aLayRows (aFresh a n) n) 0 = n := by rw [h2, G0]
  generalize hA : aLayRows (aFresh a n) n = A at s1 s2 h1 h2 h3 h4 h5 hGn
  have hl16 : ∀ q, q < aG A 0 → (aM A q).length ≤ 16 := fun q hq => inv_len h1 hq
  rw [show (9 : Int32) = nI 9 from rfl, stM g3 _ (by decide), Option.bind_some]
  have k9 := rN_C s1 (by rw [hGn]; exact hn2) hl16 (j := 9) 0 (by decide) (by decide)
  obtain ⟨⟨x, g4⟩, hg4, t1, t2, t3⟩ := itr_gen (step := SX6_goBegin_111 (nI n)) n
    (fun k y => y.1 = nI (sm (fun r => (aM A r).length) k) ∧ y.2.1 = nI k ∧ RepN (sC (A.1, A.2.1, A.2.2.1, (fun i r => if i = 3 ∧ r < k then 0 else aD A i r), A.2.2.2.2) 9 0) y.2.2 ∧ keepW n y.2.2 g3)
    (fun y => y.1 = nI (sm (fun r => (aM A r).length) n) ∧ RepN (sC (A.1, A.2.1, A.2.2.1, (fun i r => if i = 3 ∧ r < n then 0 else aD A i r), A.2.2.2.2) 9 0) y.2 ∧ keepW n y.2 g3) (by
      rintro k ⟨x, y, g⟩ hk ⟨q1, q2, q3, q4⟩
      dsimp only at q1 q2 q3 q4
      subst q1
      subst q2
      unfold SX6_goBegin_111
      dsimp only
      rcases Nat.lt_or_ge k n with z | z
      · left
        refine ⟨z, ?_⟩
        have hkA : k < aG A 0 := by rw [hGn]; exact z
        rw [if_neg (nI_ge z (by omega)), show (3 : Int32) = nI 3 from rfl, show (4 : Int32) = nI 4 from rfl, M_lays g _ (by omega) (by decide), Option.bind_some]
        have k1 := rN_cr q3 (show aG A 0 ≤ 9 by rw [hGn]; exact hn2) hl16 (r := k) 0 hkA
        have he : MX6_of (upd g (10 + 77 * k + 3) 0) (nI k) (nI 4) = some (nI (aM A k).length) := by
          rw [M_of _ (by omega) (by decide)]
          exact congrArg some (k1.2.2.1 k hkA).2.2.2.2
        rw [he, Option.bind_some]
        refine ⟨_, rfl, ?_, nI_1 k, ?_, q4.upd (keep_row (Or.inl (by decide)))⟩
        · dsimp only
          rw [nI_add]
          rfl
        · refine RepN_congr k1 (fun _ => rfl) (fun _ => rfl) (fun _ _ => rfl) (fun i r => ?_) (fun _ => rfl)
          show (if i = 3 ∧ r < k + 1 then 0 else aD A i r) = up2 (fun i r => if i = 3 ∧ r < k then 0 else aD A i r) 3 k 0 i r
          by_cases y : i = 3 ∧ r = k
          · obtain ⟨rfl, rfl⟩ := y
            rw [up2_s, if_pos ⟨rfl, by omega⟩]
          · rw [up2_n _ _ y]
            by_cases y2 : i = 3 ∧ r < k
            · rw [if_pos y2, if_pos ⟨y2.1, by omega⟩]
            · rw [if_neg y2, if_neg (fun w => y2 ⟨w.1, by
                have : ¬ r = k := fun v => y ⟨w.1, v⟩
                omega⟩)]
      · right
        have : k = n := by omega
        subst this
        rw [if_pos (nI_le (Nat.le_refl _) (by omega))]
        exact ⟨_, rfl, rfl, q3, q4⟩) FU (0, 0, upd g3 9 0) (FU_lt (by omega)) ⟨rfl, rfl, RepN_congr k9 (fun _ => rfl) (fun _ => rfl) (fun _ _ => rfl) (fun i r => by
          show (if i = 3 ∧ r < 0 then 0 else aD A i r) = aD A i r
          rw [if_neg (fun w => absurd w.2 (Nat.not_lt_zero r))]) (fun _ => rfl), keepW.rfl'.upd (fun r k _ _ _ => by omega)⟩
  dsimp only at t1 t2 t3
  subst t1
  have hg4' : itr (SX6_goBegin_111 (nI n)) FU (nI 0, nI 0, upd g3 9 (nI 0)) = some (nI (sm (fun r => (aM A r).length) n), g4) := hg4
  rw [hg4', Option.bind_some]
  refine ⟨g4, ?_, ?_, ?_⟩
  · unfold aBegin aEchoes
    dsimp only
    rw [hA, hGn]
  · unfold aBegin
    dsimp only
    rw [hA]
    obtain ⟨w1, w2, w3, w4⟩ := t2
    refine ⟨w1, w2, fun r hr => ?_, w4⟩
    have hr' : r < n := by rw [← hGn]; exact hr
    have := w3 r hr
    refine ⟨this.1, this.2.1, this.2.2.1, this.2.2.2.1.trans ?_, this.2.2.2.2⟩
    show (if 3 = 3 ∧ r < n then 0 else aD A 3 r) = (if 3 = 3 then 0 else aD A 3 r)
    rw [if_pos ⟨rfl, hr'⟩, if_pos rfl]
  · unfold aBegin
    dsimp only
    rw [hA]
    exact rW_o s2 (by rw [hGn]; exact hn2) rfl (fun _ => rfl) rfl rfl (fun r k p1 p2 p3 => t3 r k (by rw [← hGn]; exact p1) p2 p3)
end MOPS3
