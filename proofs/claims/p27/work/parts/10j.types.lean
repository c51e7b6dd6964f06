/-! what is typed -/
section TYPES
theorem inl_of {α β : Type} {o : Option (α ⊕ β)} {P : α → Prop} (h : ∃ z, o = some z ∧ ∃ s', z = .inl s' ∧ P s') : ∃ s', o = some (.inl s') ∧ P s' := by
  obtain ⟨z, z1, s', z2, z3⟩ := h
  exact ⟨s', by rw [z1, z2], z3⟩
theorem cntL_congr {t t' : Nat → Int32} : ∀ n, (∀ k, k < n → t k = t' k) → cntL t n = cntL t' n
  | 0, _ => rfl
  | n + 1, h => by
    show cntL t n + b1 (decide (0 < mOf (t n))) = cntL t' n + b1 (decide (0 < mOf (t' n)))
    rw [cntL_congr n (fun k hk => h k (by omega)), h n (by omega)]
theorem cntL_upd (sg : Nat → Int32) (m : Nat) (x : Int32) : cntL (upd sg m x) (m + 1) = cntL sg m + b1 (decide (0 < mOf x)) := by
  show cntL (upd sg m x) m + b1 (decide (0 < mOf (upd sg m x m))) = _
  rw [cntL_congr (t := upd sg m x) (t' := sg) m (fun k hk => pk_un (by omega)), pk_us]
theorem ty_ok {m : Nat} (hm : m < 60) (sg : Nat → Int32) {x : Int32} (h1 : ¬ x < 32) (h2 : x ≤ 126) : MX5_type (nI m) sg x = some (nI (m + 1), nI (m + 1), upd sg m x) := by
  unfold MX5_type MX2_append
  rw [if_neg h1, if_pos h2, if_neg (nI_pos (by omega)), if_pos (show nI m < 60 from nI_lt (b := 60) hm (by decide)), stA_nI _ hm (by decide), Option.bind_some, Option.bind_some, nI_1]
/-- the text so far: its length and its letters -/
def TxtK (m k : Nat) (s : Int32 × Int32 × (Nat → Int32)) : Prop := ∃ m' sg, s = (1, nI m', sg) ∧ m' ≤ m ∧ cntL sg m' = k
theorem dig_ok {d : Nat} (h : d < 10) : ¬ (48 + nI d : Int32) < 32 ∧ (48 + nI d : Int32) ≤ 126 ∧ mOf (48 + nI d) = 0 := (show ∀ d, d < 10 → ¬ (48 + nI d : Int32) < 32 ∧ (48 + nI d : Int32) ≤ 126 ∧ mOf (48 + nI d) = 0 by decide) d h
theorem put_ok {m M k : Nat} (sg : Nat → Int32) {x : Int32} (hm : m ≤ M) (hM : M < 60) (hk : cntL sg m = k) (h1 : ¬ x < 32) (h2 : x ≤ 126) : ∃ z, MX5_type (nI m) sg x = some z ∧ ¬ z.1 ≤ 0 ∧ ∃ m' sg', z.2.1 = nI m' ∧ z.2.2 = sg' ∧ m' ≤ M + 1 ∧ cntL sg' m' = k + b1 (decide (0 < mOf x)) :=
  ⟨_, ty_ok (by omega) sg h1 h2, nI_nle (by omega) (by omega), m + 1, _, rfl, rfl, by omega, by rw [cntL_upd, hk]⟩
theorem number_ok {m M k v : Nat} (sg : Nat → Int32) (hv : v ≤ 120) (hm : m ≤ M) (hM : M + (if v < 100 then 2 else 3) ≤ 60) (hk : cntL sg m = k) : ∃ z, ML_number (nI m) sg (nI v) = some z ∧ TxtK (M + (if v < 100 then 2 else 3)) k z := by
  have e10 : nI v / 10 = nI (v / 10) := by rw [show (10 : Int32) = nI 10 from rfl, pk_div (by omega) (by decide) (by decide)]
  have r10 : nI v - nI v / 10 * 10 = nI (v % 10) := by rw [show (10 : Int32) = nI 10 from rfl, pk_rem (by omega) (by decide) (by decide)]
  have r100 : nI (v / 10) - nI (v / 10) / 10 * 10 = nI (v / 10 % 10) := by rw [show (10 : Int32) = nI 10 from rfl, pk_rem (by omega) (by decide) (by decide)]
  have e100 : nI v / 100 = nI (v / 100) := by rw [show (100 : Int32) = nI 100 from rfl, pk_div (by omega) (by decide) (by decide)]
  unfold ML_number
  rw [r10, e10, r100, e100]
  have d1 := dig_ok (d := v % 10) (Nat.mod_lt _ (by decide))
  have d2 := dig_ok (d := v / 10 % 10) (Nat.mod_lt _ (by decide))
  have d3 := dig_ok (d := v / 100) (by omega)
  by_cases q : v < 100
  · rw [if_pos q] at hM ⊢
    refine xt (show nI v < 100 from nI_lt (b := 100) q (by decide)) ?_
    by_cases q2 : v < 10
    · refine xt (show nI v < 10 from nI_lt (b := 10) q2 (by decide)) ?_
      obtain ⟨z, z1, z2, m', sg', z3, z4, z5, z6⟩ := put_ok sg hm (show M < 60 by omega) hk d1.1 d1.2.1
      refine xb z1 (xf z2 (xs ⟨m', sg', by rw [z3, z4], by omega, ?_⟩))
      rw [z6, d1.2.2]
      rfl
    · refine xf (show ¬ nI v < 10 from nI_nlt (b := 10) (by omega) (by omega)) ?_
      obtain ⟨z, z1, z2, m', sg', z3, z4, z5, z6⟩ := put_ok sg hm (show M < 60 by omega) hk d2.1 d2.2.1
      refine xb z1 (xf z2 ?_)
      rw [z3, z4]
      obtain ⟨y, y1, y2, m2, sg2, y3, y4, y5, y6⟩ := put_ok sg' z5 (show M + 1 < 60 by omega) z6 d1.1 d1.2.1
      refine xb y1 (xf y2 (xs ⟨m2, sg2, by rw [y3, y4], by omega, ?_⟩))
      rw [y6, d1.2.2, d2.2.2]
      rfl
  · rw [if_neg q] at hM ⊢
    refine xf (show ¬ nI v < 100 from nI_nlt (b := 100) (by omega) (by omega)) ?_
    obtain ⟨z, z1, z2, m', sg', z3, z4, z5, z6⟩ := put_ok sg hm (show M < 60 by omega) hk d3.1 d3.2.1
    refine xb z1 (xf z2 (xf (show ¬ nI v < 10 from nI_nlt (b := 10) (by omega) (by omega)) ?_))
    rw [z3, z4]
    obtain ⟨y, y1, y2, m2, sg2, y3, y4, y5, y6⟩ := put_ok sg' z5 (show M + 1 < 60 by omega) z6 d2.1 d2.2.1
    refine xb y1 (xf y2 ?_)
    rw [y3, y4]
    obtain ⟨w, w1, w2, m3, sg3, w3, w4, w5, w6⟩ := put_ok sg2 y5 (show M + 1 + 1 < 60 by omega) y6 d1.1 d1.2.1
    refine xb w1 (xf w2 (xs ⟨m3, sg3, by rw [w3, w4], by omega, ?_⟩))
    rw [w6, d1.2.2, d2.2.2, d3.2.2]
    rfl
variable {a : Abs} {f : Nat → Int32}
theorem let_ok (w : Nat) (hw : w < 9) : ∃ v, ((if 3 ≤ nI w then (if nI w = 3 then some 108 else (if 6 ≤ nI w then (if nI w = 6 then some 115 else (if nI w = 7 then some 97 else some 100)) else some 109)) else some 119) : Option Int32) = some v ∧ ¬ v < 32 ∧ v ≤ 126 ∧ 0 < mOf v := by
  match w, hw with
  | 0, _ => exact ⟨119, by decide, by decide, by decide, by decide⟩
  | 1, _ => exact ⟨119, by decide, by decide, by decide, by decide⟩
  | 2, _ => exact ⟨119, by decide, by decide, by decide, by decide⟩
  | 3, _ => exact ⟨108, by decide, by decide, by decide, by decide⟩
  | 4, _ => exact ⟨109, by decide, by decide, by decide, by decide⟩
  | 5, _ => exact ⟨109, by decide, by decide, by decide, by decide⟩
  | 6, _ => exact ⟨115, by decide, by decide, by decide, by decide⟩
  | 7, _ => exact ⟨97, by decide, by decide, by decide, by decide⟩
  | 8, _ => exact ⟨100, by decide, by decide, by decide, by decide⟩
  | w + 9, h => omega
/-- a letter and its first number -/
theorem head_ok (h : RepC a f) (hi : aInv a) (im x y : Int32) {w m k : Nat} (sg : Nat → Int32) (hw : w < 9) (hm : m ≤ 10 * k) (hk5 : k < 5) (hk : cntL sg m = k) : ∃ z, ((if (1 : Int32) = 0 then some (0, nI m, sg) else (((if 3 ≤ nI w then (if nI w = 3 then some 108 else (if 6 ≤ nI w then (if nI w = 6 then some 115 else (if nI w = 7 then some 97 else some 100)) else some 109)) else some 119) : Option Int32)).bind fun j135 => (MX5_type (nI m) sg j135).bind fun v139 => (if v139.1 ≤ 0 then some (0, v139.2.1, v139.2.2) else (((if nI w = 8 then (ML_low (x >>> (25 &&& 31)) 9).bind fun v157 => (((if v157 = 0 then some 120 else some 9) : Option Int32)).bind fun j160 => (ML_low (y >>> (2 &&& 31)) j160).bind fun v164 => some (1 + v164) else (MX5_count f im v139.2.1 0).bind fun v171 => (ML_low (y >>> (1 &&& 31)) v171).bind fun v174 => some v174) : Option Int32)).bind fun j145 => (ML_number v139.2.1 v139.2.2 j145).bind fun v149 => (if v149.1 = 0 then some (0, v149.2.1, v149.2.2) else some (1, v149.2.1, v149.2.2)))) : Option (Int32 × Int32 × (Nat → Int32))) = some z ∧ TxtK (10 * k + (if w = 8 then 4 else 3)) (k + 1) z := by
  have hn := hi.1
  refine xf one_n0 ?_
  obtain ⟨v, v1, v2, v3, v4⟩ := let_ok w hw
  refine xb v1 ?_
  obtain ⟨z, z1, z2, m', sg', z3, z4, z5, z6⟩ := put_ok sg hm (show 10 * k < 60 by omega) hk v2 v3
  rw [decide_eq_true v4] at z6
  refine xb z1 (xf z2 ?_)
  rw [z3, z4]
  have tail : ∀ v, v ≤ 120 → (w ≠ 8 → v < 100) → ∃ z, (ML_number (nI m') sg' (nI v)).bind (fun v149 => (if v149.1 = 0 then some (0, v149.2.1, v149.2.2) else some (1, v149.2.1, v149.2.2))) = some z ∧ TxtK (10 * k + (if w = 8 then 4 else 3)) (k + 1) z := by
    intro v hv hv2
    have hM : 10 * k + 1 + (if v < 100 then 2 else 3) ≤ 60 := by split <;> omega
    obtain ⟨y, y1, m2, sg2, y2, y3, y4⟩ := number_ok (M := 10 * k + 1) sg' hv z5 hM z6
    subst y2
    refine xb y1 (xf one_n0 (xs ⟨m2, sg2, rfl, ?_, y4⟩))
    by_cases q : w = 8
    · rw [if_pos q]
      split at y3 <;> omega
    · rw [if_neg q]
      rw [if_pos (hv2 q)] at y3
      omega
  by_cases q : w = 8
  · have hj : ∃ v, v ≤ 120 ∧ ((if nI w = 8 then (ML_low (x >>> (25 &&& 31)) 9).bind fun v157 => (((if v157 = 0 then some 120 else some 9) : Option Int32)).bind fun j160 => (ML_low (y >>> (2 &&& 31)) j160).bind fun v164 => some (1 + v164) else (MX5_count f im (nI m') 0).bind fun v171 => (ML_low (y >>> (1 &&& 31)) v171).bind fun v174 => some v174) : Option Int32) = some (nI v) := by
      obtain ⟨c, c1, c2⟩ := low_ok (x >>> (25 &&& 31)) (N := 9) (by decide) (by decide)
      rw [q, if_pos (show nI 8 = 8 from rfl), show (9 : Int32) = nI 9 from rfl, c2, Option.bind_some]
      by_cases c0 : nI c = 0
      · obtain ⟨d, d1, d2⟩ := low_ok (y >>> (2 &&& 31)) (N := 120) (by decide) (by decide)
        refine ⟨1 + d, by omega, ?_⟩
        rw [if_pos c0, Option.bind_some, show (120 : Int32) = nI 120 from rfl, d2, Option.bind_some, show (1 : Int32) = nI 1 from rfl, nI_add]
      · obtain ⟨d, d1, d2⟩ := low_ok (y >>> (2 &&& 31)) (N := 9) (by decide) (by decide)
        refine ⟨1 + d, by omega, ?_⟩
        rw [if_neg c0, Option.bind_some, d2, Option.bind_some, show (1 : Int32) = nI 1 from rfl, nI_add]
    obtain ⟨v, v5, v6⟩ := hj
    exact xb v6 (tail v v5 (fun z => absurd q z))
  · obtain ⟨c, c1, c2⟩ := low_ok (y >>> (1 &&& 31)) (N := aG a 0) (by omega) (by omega)
    have hj : ((if nI w = 8 then (ML_low (x >>> (25 &&& 31)) 9).bind fun v157 => (((if v157 = 0 then some 120 else some 9) : Option Int32)).bind fun j160 => (ML_low (y >>> (2 &&& 31)) j160).bind fun v164 => some (1 + v164) else (MX5_count f im (nI m') 0).bind fun v171 => (ML_low (y >>> (1 &&& 31)) v171).bind fun v174 => some v174) : Option Int32) = some (nI c) := by
      rw [if_neg (show ¬ nI w = 8 from fun z => q ((nI_eq (b := 8) (by omega) (by decide)).mp z)), kq0 h im (nI m'), Option.bind_some, c2, Option.bind_some]
    exact xb hj (tail c (by omega) (fun _ => by omega))
theorem sep44 : ¬ (44 : Int32) < 32 ∧ (44 : Int32) ≤ 126 ∧ mOf 44 = 0 := by decide
/-- a comma and a number below 100 -/
theorem comma_ok {m M k : Nat} (sg : Nat → Int32) (hm : m ≤ M) (hM : M + 3 ≤ 60) (hk : cntL sg m = k) {v : Nat} (hv : v < 100) : ∃ z, MX5_type (nI m) sg 44 = some z ∧ ¬ z.1 ≤ 0 ∧ ∃ y, ML_number z.2.1 z.2.2 (nI v) = some y ∧ TxtK (M + 3) k y := by
  obtain ⟨z, z1, z2, m', sg', z3, z4, z5, z6⟩ := put_ok sg hm (show M < 60 by omega) hk sep44.1 sep44.2.1
  rw [sep44.2.2] at z6
  refine ⟨z, z1, z2, ?_⟩
  rw [z3, z4]
  obtain ⟨y, y1, y2⟩ := number_ok (M := M + 1) sg' (show v ≤ 120 by omega) z5 (by rw [if_pos hv]; omega) z6
  rw [if_pos hv] at y2
  exact ⟨y, y1, y2⟩
theorem types_ok (h : RepC a f) (hi : aInv a) (im : Int32) {m0 : Nat} (h0 : m0 ≤ 60) (sg0 : Nat → Int32) (x : Int32) : ∃ n, n < 6 ∧ ML_low x 6 = some (nI n) ∧ ∃ z, ML_types f im (nI m0) sg0 x = some z ∧ TxtK 60 n z := by
  have hn := hi.1
  obtain ⟨n, n1, n2⟩ := low_ok x (N := 6) (by decide) (by decide)
  refine ⟨n, n1, n2, ?_⟩
  unfold ML_types
  refine xb n2 ?_
  refine xb (show MX5_clearText (nI m0) = some (nI m0, 0) from rfl) ?_
  refine xb (v := 1) (if_neg (nI_pos (by omega))) ?_
  obtain ⟨r, r1, m, sg, r2, r3, r4⟩ := itr_gen (step := SL_types_23 (nI n) x f im) n (fun k s => ∃ m sg, s = (1, nI k, nI m, sg) ∧ m ≤ 10 * k ∧ cntL sg m = k) (fun r => TxtK 60 n r) (fun k s hk hI => by
    obtain ⟨m, sg, rfl, hm, hc⟩ := hI
    rcases Nat.lt_or_ge k n with hkn | hkn
    · left
      refine ⟨hkn, inl_of ?_⟩
      unfold SL_types_23
      dsimp only
      refine xf (nI_ge hkn (by omega)) ?_
      obtain ⟨w, w1, w2⟩ := low_ok (x >>> ((3 + (4 * nI k)) &&& 31)) (N := 9) (by decide) (by decide)
      refine xb w2 ?_
      obtain ⟨z, z1, m1, sg1, z2, z3, z4⟩ := head_ok h hi im x (x >>> ((3 + (4 * nI k)) &&& 31)) sg w1 hm (by omega) hc
      subst z2
      refine xb z1 ?_
      refine xj (TxtK (10 * k + 9) (k + 1)) ?_ ?_
      · by_cases q3 : w < 3
        · refine xf (show ¬ 3 ≤ nI w from nI_ge (b := 3) q3 (by decide)) (xf one_n0 ?_)
          rw [if_neg (show ¬ w = 8 by omega)] at z3
          obtain ⟨c, c1, c2⟩ := low_ok (x >>> (24 &&& 31)) (N := 9) (by decide) (by decide)
          have hj : ∃ N, 0 < N ∧ N ≤ 9 ∧ ((if nI c = 0 then some 9 else some 8) : Option Int32) = some (nI N) := by
            by_cases c0 : nI c = 0
            · exact ⟨9, by decide, by decide, if_pos c0⟩
            · exact ⟨8, by decide, by decide, if_neg c0⟩
          obtain ⟨N, N1, N2, N3⟩ := hj
          obtain ⟨d, d1, d2⟩ := low_ok ((x >>> ((3 + (4 * nI k)) &&& 31)) >>> (2 &&& 31)) (N := N) N1 (by omega)
          obtain ⟨e, e1, e2⟩ := low_ok ((x >>> ((3 + (4 * nI k)) &&& 31)) >>> (3 &&& 31)) (N := 40) (by decide) (by decide)
          obtain ⟨t, t1, t2, u, u1, m2, sg2, u2, u3, u4⟩ := comma_ok sg1 z3 (by omega) z4 (show d < 100 by omega)
          subst u2
          obtain ⟨t', t3, t4, u', u5, m3, sg3, u6, u7, u8⟩ := comma_ok sg2 u3 (by omega) u4 (show e < 100 by omega)
          subst u6
          refine xb t1 (xf t2 (xb c2 (xb N3 (xb d2 (xb u1 (xf one_n0 (xb t3 (xf t4 (xb e2 (xb u5 (xf one_n0 (xs ?_))))))))))))
          exact ⟨m3, sg3, rfl, by omega, u8⟩
        · refine xt (show 3 ≤ nI w from nI_le (a := 3) (by omega) (by omega)) ?_
          by_cases q6 : w = 6
          · refine xt (show nI w = 6 by rw [q6]; rfl) (xf one_n0 ?_)
            rw [if_neg (show ¬ w = 8 by omega)] at z3
            obtain ⟨d, d1, d2⟩ := low_ok ((x >>> ((3 + (4 * nI k)) &&& 31)) >>> (3 &&& 31)) (N := aG a 0) (by omega) (by omega)
            obtain ⟨t, t1, t2, u, u1, m2, sg2, u2, u3, u4⟩ := comma_ok sg1 z3 (by omega) z4 (show d < 100 by omega)
            subst u2
            refine xb t1 (xf t2 (xb (kq0 h im _) (xb d2 (xb u1 (xf one_n0 (xs ?_))))))
            exact ⟨m2, sg2, rfl, by omega, u4⟩
          · refine xf (show ¬ nI w = 6 from fun z => q6 ((nI_eq (b := 6) (by omega) (by decide)).mp z)) (xs ?_)
            refine ⟨m1, sg1, rfl, ?_, z4⟩
            split at z3 <;> omega
      · rintro _ ⟨m2, sg2, rfl, y2, y3⟩
        dsimp only
        refine xf one_n0 ?_
        have hj : ∃ v, ((if nI k = (nI n - 1) then (ML_low (x >>> (26 &&& 31)) 7).bind fun v55 => (if v55 = 0 then some 46 else some 59) else some 59) : Option Int32) = some v ∧ ¬ v < 32 ∧ v ≤ 126 ∧ mOf v = 0 := by
          by_cases q : nI k = nI n - 1
          · obtain ⟨d, d1, d2⟩ := low_ok (x >>> (26 &&& 31)) (N := 7) (by decide) (by decide)
            rw [if_pos q, show (7 : Int32) = nI 7 from rfl, d2, Option.bind_some]
            by_cases d0 : nI d = 0
            · exact ⟨46, if_pos d0, by decide, by decide, by decide⟩
            · exact ⟨59, if_neg d0, by decide, by decide, by decide⟩
          · exact ⟨59, if_neg q, by decide, by decide, by decide⟩
        obtain ⟨v, v1, v2, v3, v4⟩ := hj
        refine xb v1 ?_
        obtain ⟨t, t1, t2, m3, sg3, t3, t4, t5, t6⟩ := put_ok sg2 y2 (by omega) y3 v2 v3
        rw [v4] at t6
        refine xb t1 (xf t2 ?_)
        rw [t3, t4, nI_1]
        exact xs ⟨_, rfl, m3, sg3, rfl, by omega, t6⟩
    · right
      have : k = n := by omega
      subst this
      unfold SL_types_23
      dsimp only
      rw [if_pos (nI_le (Nat.le_refl _) (by omega))]
      exact ⟨_, rfl, m, sg, rfl, by omega, hc⟩) FU (1, 0, 0, sg0) (FU_lt (by omega)) ⟨0, sg0, rfl, Nat.le_refl _, rfl⟩
  subst r2
  refine xb r1 ?_
  refine xb (v := 1) (if_pos (Or.inr rfl)) (xs ⟨m, sg, rfl, r3, r4⟩)
end TYPES
