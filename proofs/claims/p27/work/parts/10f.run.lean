/-! the text: what is read, what is done -/
def rdO (t : Nat → Int32) (p : Nat) : Bool × Nat × List Nat := if mOf (t p) = 0 then (false, p, []) else rdN t (mOf (t p)) (p + 1) []
theorem rdN_nums (t : Nat → Int32) : ∀ k q L, (∀ v ∈ L, v < 1000) → ∀ v ∈ (rdN t k q L).2.2, v < 1000
  | 0, q, L, h => h
  | k + 1, q, L, h => by
    unfold rdN
    have hv := (nf_le t q 3).2
    split
    · exact h
    · split
      · refine rdN_nums t k _ _ (fun v hv' => ?_)
        rcases List.mem_append.mp hv' with z | z
        · exact h v z
        · rw [List.mem_singleton] at z
          subst z
          exact Nat.lt_of_lt_of_le hv (by decide)
      · exact h
theorem dgt_in {x : Int32} {d : Nat} (h : dgt x = some d) : ¬ x < 48 ∧ x ≤ 57 := by
  unfold dgt at h
  split at h
  · next q => exact q
  · cases h
theorem m_dgt {x : Int32} {d : Nat} (h : dgt x = some d) : mOf x = 0 := by
  rcases Nat.eq_zero_or_pos (mOf x) with z | z
  · exact z
  · have := dgt_in h
    rcases m_cases z with rfl | rfl | rfl | rfl | rfl | rfl <;> exact absurd this.2 (by decide)
theorem m_sep (k : Nat) : mOf (sepOf k) = 0 := by
  unfold sepOf
  split <;> decide
theorem nf_dig (t : Nat → Int32) (q : Nat) : ∀ k i, i < (nf t q k).1 → ∃ d, dgt (t (q + i)) = some d
  | 0, i, h => absurd h (Nat.not_lt_zero _)
  | k + 1, i, h => by
    have hk := (nf_le t q k).1
    cases e : dgt (t (q + k)) with
    | none =>
      rw [nf_succ, e] at h
      exact nf_dig t q k i h
    | some d =>
      by_cases z : i < (nf t q k).1
      · exact nf_dig t q k i z
      · rw [nf_succ, e] at h
        by_cases y : (nf t q k).1 = k
        · have h' : i < (if (nf t q k).1 = k then (k + 1, 10 * (nf t q k).2 + d) else nf t q k).1 := h
          rw [if_pos y] at h'
          have : i = k := by
            have : i < k + 1 := h'
            omega
          subst this
          exact ⟨d, e⟩
        · have h' : i < (if (nf t q k).1 = k then (k + 1, 10 * (nf t q k).2 + d) else nf t q k).1 := h
          rw [if_neg y] at h'
          exact absurd h' z
/-- no letter stands between an order's first sign and its end -/
theorem rdN_let (t : Nat → Int32) : ∀ k q L i, q ≤ i → i < (rdN t k q L).2.1 → mOf (t i) = 0
  | 0, q, L, i, h1, h2 => absurd h2 (by
    show ¬ i < q
    omega)
  | k + 1, q, L, i, h1, h2 => by
    unfold rdN at h2
    have dig : i < q + (nf t q 3).1 → mOf (t i) = 0 := by
      intro z
      obtain ⟨d, hd⟩ := nf_dig t q 3 (i - q) (by omega)
      rw [show q + (i - q) = i by omega] at hd
      exact m_dgt hd
    split at h2
    · have : i < q := h2
      omega
    · next y =>
      split at h2
      · next w =>
        by_cases z : i < q + (nf t q 3).1
        · exact dig z
        · by_cases z2 : i = q + (nf t q 3).1
          · rw [z2, w]
            exact m_sep k
          · exact rdN_let t k _ _ i (by omega) h2
      · exact dig h2
theorem t_lt {n : Nat} {sg : Nat → Int32} {i : Nat} (h : ¬ tAt n sg i = 0) : i < n := by
  unfold tAt at h
  split at h
  · assumption
  · exact absurd rfl h
theorem dg0 : dgt 0 = none := by decide
theorem rdN_end (n : Nat) (sg : Nat → Int32) : ∀ k q L, q ≤ n → (rdN (tAt n sg) k q L).2.1 ≤ n
  | 0, q, L, h => h
  | k + 1, q, L, h => by
    unfold rdN
    have hd : q + (nf (tAt n sg) q 3).1 ≤ n := by
      rcases Nat.eq_zero_or_pos (nf (tAt n sg) q 3).1 with z | z
      · omega
      · obtain ⟨d, hd⟩ := nf_dig (tAt n sg) q 3 ((nf (tAt n sg) q 3).1 - 1) (by omega)
        have : q + ((nf (tAt n sg) q 3).1 - 1) < n := t_lt (fun w => by
          rw [w, dg0] at hd
          cases hd)
        omega
    split
    · exact h
    · split
      · next w =>
        have : q + (nf (tAt n sg) q 3).1 < n := t_lt (fun z => by
          rw [z] at w
          unfold sepOf at w
          split at w <;> exact absurd w (by decide))
        exact rdN_end n sg k _ _ (by omega)
      · exact hd
/-- how many letters stand in the first n places -/
def cntL (t : Nat → Int32) (n : Nat) : Nat := sm (fun i => b1 (decide (0 < mOf (t i)))) n
theorem cntL_none (t : Nat → Int32) : ∀ j q, (∀ i, q ≤ i → i < q + j → mOf (t i) = 0) → cntL t (q + j) = cntL t q
  | 0, q, _ => rfl
  | j + 1, q, h => by
    show cntL t (q + j) + b1 (decide (0 < mOf (t (q + j)))) = cntL t q
    rw [cntL_none t j q (fun i h1 h2 => h i h1 (by omega)), h (q + j) (by omega) (by omega)]
    rfl
def oOrd (a : Abs) (x : Int32) (L : List Nat) : Int32 × Abs := if x = 97 then oLay a (L.getD 0 0) else if x = 108 then oLose a (L.getD 0 0) else if x = 109 then oMend a (L.getD 0 0) else if x = 115 then oSwap a (L.getD 0 0) (L.getD 1 0) else if x = 119 then oWrite a (L.getD 0 0) (L.getD 1 0) (L.getD 2 0) else oDays a (L.getD 0 0)
theorem ok_ord {a : Abs} {N : Nat} (h : GoodA N a) (x : Int32) (L : List Nat) : okO N a (oOrd a x L) := by
  unfold oOrd
  split
  · exact ok_lay h _
  · split
    · exact ok_lose h _
    · split
      · exact ok_mend h _
      · split
        · exact ok_swap h _ _
        · split
          · exact ok_write h _ _ _
          · exact ok_days h _
def aRun (t : Nat → Int32) (n : Nat) : Nat → Nat → Nat → Abs → (Int32 × Int32 × Int32) ⊕ (Nat × Abs)
  | 0, _, c, a => .inr (c, a)
  | F + 1, p, c, a => if n ≤ p then .inr (c, a) else
    if (rdO t p).1 = false then .inl (nI p, 1, nI (rdO t p).2.1 - nI p) else
    if (oOrd a (t p) (rdO t p).2.2).1 < 0 then .inl (nI p, 2, (oOrd a (t p) (rdO t p).2.2).1) else
    aRun t n F (rdO t p).2.1 (c + 1) (oOrd a (t p) (rdO t p).2.2).2
section RUNS
variable {n : Nat} {sg : Nat → Int32} {fp fr fc : Int32}
theorem ord_cls (hn : n ≤ 60) {p : Nat} (hp : p < 2 ^ 17) (nb : Nat → Int32) : ∃ z, MX2_readOrder (nI n) (nI p) sg nb = some z ∧ z.2.1 = nI (rdO (tAt n sg) p).2.1 ∧ ((rdO (tAt n sg) p).1 = false → z.1 = 0) ∧ ((rdO (tAt n sg) p).1 = true → z.1 = 1 ∧ 0 < mOf (tAt n sg p) ∧ (rdO (tAt n sg) p).2.2.length = mOf (tAt n sg p) ∧ agL (rdO (tAt n sg) p).2.2 z.2.2) := by
  unfold MX2_readOrder rdO
  have hm3 := m_le (tAt n sg p)
  rw [C_sign hn (by omega), Option.bind_some, num_of, Option.bind_some, nI_1]
  rcases Nat.eq_zero_or_pos (mOf (tAt n sg p)) with m0 | m0
  · rw [m0, if_pos (show nI 0 = (0 : Int32) from rfl), if_pos rfl]
    exact ⟨_, rfl, rfl, fun _ => rfl, fun z => absurd (show false = true from z) (by decide)⟩
  · rw [if_neg (nI_ne0 m0 (by omega)), if_neg (show ¬ mOf (tAt n sg p) = 0 by omega)]
    have hle := rdN_le (tAt n sg) (mOf (tAt n sg p)) (p + 1) []
    obtain ⟨z, z1, z2⟩ := C_rest hn (mOf (tAt n sg p)) hm3 (mOf (tAt n sg p)) 0 (p + 1) [] nb FU (by omega) rfl (by omega) (FU_lt (by omega)) (fun i hi => absurd hi (Nat.not_lt_zero i))
    rw [show itr (SX2_readOrder_30 (nI (mOf (tAt n sg p))) (nI n) sg) FU (0, nI (p + 1), nb) = some z from z1, Option.bind_some]
    rcases z2 with ⟨b1', nb', rfl, ag⟩ | ⟨b1', nb', rfl⟩
    · refine ⟨_, rfl, rfl, fun z => ?_, fun _ => ⟨rfl, m0, ?_, ag⟩⟩
      · rw [b1'] at z
        cases z
      · have := hle.2.2 b1'
        rw [List.length_nil] at this
        omega
    · refine ⟨_, rfl, rfl, fun _ => rfl, fun z => ?_⟩
      rw [b1'] at z
      cases z
theorem sw_ok {a : Abs} {f nb : Nat → Int32} (h : RepC a f) (hi : aInv a) {x : Int32} (hx : 0 < mOf x) {L : List Nat} (hL : L.length = mOf x) (hv : ∀ v ∈ L, v < 1000) (ha : agL L nb) : ∃ g, swC x nb f = some ((oOrd a x L).1, g) ∧ RepC (oOrd a x L).2 g := by
  have hb : ∀ i, L.getD i 0 < 2 ^ 31 := by
    intro i
    rw [List.getD_eq_getElem?_getD]
    rcases Nat.lt_or_ge i L.length with w | w
    · rw [List.getElem?_eq_getElem w]
      exact Nat.lt_of_lt_of_le (hv _ (List.getElem_mem w)) (by decide)
    · rw [List.getElem?_eq_none w]
      decide
  have hl : ∀ i, i < 3 → i < L.length → ldA 3 nb (nI i) = some (nI (L.getD i 0)) := fun i h3 h4 => by rw [ld3 nb h3, ha i h4]
  rcases m_cases hx with rfl | rfl | rfl | rfl | rfl | rfl
  · have h0 := hl 0 (by decide) (by rw [hL]; decide)
    rw [show swC 97 nb f = (ldA 3 nb (nI 0)).bind fun v => MX3_layAnew f v from rfl, h0, Option.bind_some]
    exact go_lay h hi (hb 0)
  · have h0 := hl 0 (by decide) (by rw [hL]; decide)
    rw [show swC 100 nb f = (ldA 3 nb (nI 0)).bind fun v => MX3_endDays f v from rfl, h0, Option.bind_some]
    exact go_days h hi (hb 0)
  · have h0 := hl 0 (by decide) (by rw [hL]; decide)
    rw [show swC 108 nb f = (ldA 3 nb (nI 0)).bind fun v => MX3_loseRow f v from rfl, h0, Option.bind_some]
    exact go_lose h hi (hb 0)
  · have h0 := hl 0 (by decide) (by rw [hL]; decide)
    rw [show swC 109 nb f = (ldA 3 nb (nI 0)).bind fun v => MX3_mendRow f v from rfl, h0, Option.bind_some]
    exact go_mend h hi (hb 0)
  · have h0 := hl 0 (by decide) (by rw [hL]; decide)
    have h1 := hl 1 (by decide) (by rw [hL]; decide)
    rw [show swC 115 nb f = (ldA 3 nb (nI 0)).bind fun v => (ldA 3 nb (nI 1)).bind fun w => MX3_swapRows f v w from rfl, h0, Option.bind_some, h1, Option.bind_some]
    exact go_swap h hi (hb 0) (hb 1)
  · have h0 := hl 0 (by decide) (by rw [hL]; decide)
    have h1 := hl 1 (by decide) (by rw [hL]; decide)
    have h2 := hl 2 (by decide) (by rw [hL]; decide)
    rw [show swC 119 nb f = (ldA 3 nb (nI 0)).bind fun v => (ldA 3 nb (nI 1)).bind fun w => (ldA 3 nb (nI 2)).bind fun u => MX3_writeCell f v w u from rfl, h0, Option.bind_some, h1, Option.bind_some, h2, Option.bind_some]
    exact go_write h hi (hb 0) (hb 1) (hb 2)
def RunC (z : (Int32 × Int32 × (Nat → Int32) × (Nat → Int32)) ⊕ (Int32 × Int32 × Int32 × Int32 × Int32 × (Nat → Int32) × (Nat → Int32))) (w : (Int32 × Int32 × Int32) ⊕ (Nat × Abs)) : Prop :=
  (∃ c a at' nb f, w = .inr (c, a) ∧ z = .inl (nI c, at', nb, f) ∧ RepC a f) ∨ (∃ x y u at' nb f, w = .inl (x, y, u) ∧ z = .inr (-1, at', x, y, u, nb, f))
theorem rdO_up (t : Nat → Int32) {p : Nat} (h : (rdO t p).1 = true) : p < (rdO t p).2.1 ∧ (rdO t p).2.1 ≤ p + 20 := by
  unfold rdO at h ⊢
  split at h
  · cases h
  · next q =>
    rw [if_neg q]
    have := rdN_le t (mOf (t p)) (p + 1) []
    have := m_le (t p)
    omega
theorem run_cls (hn : n ≤ 60) : ∀ j p c F1 F2 (nb f : Nat → Int32) (a : Abs) (N : Nat), n - p ≤ j → p < 2 ^ 17 → c ≤ p → j < F1 → j < F2 → RepC a f → GoodA N a → ∃ z, itr (SX2_run_7 (nI n) sg fp fr fc) F1 (nI c, nI p, nb, f) = some z ∧ RunC z (aRun (tAt n sg) n F2 p c a) := by
  intro j
  induction j with
  | zero =>
    intro p c F1 F2 nb f a N hj hp hc hF1 hF2 h hg
    obtain ⟨F1, rfl⟩ : ∃ G, F1 = G + 1 := ⟨F1 - 1, by omega⟩
    obtain ⟨F2, rfl⟩ : ∃ G, F2 = G + 1 := ⟨F2 - 1, by omega⟩
    refine ⟨_, itr_r (step := SX2_run_7 (nI n) sg fp fr fc) (r := .inl (nI c, nI p, nb, f)) (by
      unfold SX2_run_7
      dsimp only
      rw [if_pos (nI_le (by omega) (by omega))]), Or.inl ⟨c, a, _, _, _, ?_, rfl, h⟩⟩
    unfold aRun
    rw [if_pos (by omega)]
  | succ j ih =>
    intro p c F1 F2 nb f a N hj hp hc hF1 hF2 h hg
    obtain ⟨F1, rfl⟩ : ∃ G, F1 = G + 1 := ⟨F1 - 1, by omega⟩
    obtain ⟨F2, rfl⟩ : ∃ G, F2 = G + 1 := ⟨F2 - 1, by omega⟩
    unfold aRun
    by_cases hpn' : n ≤ p
    · rw [if_pos hpn']
      exact ⟨_, itr_r (step := SX2_run_7 (nI n) sg fp fr fc) (r := .inl (nI c, nI p, nb, f)) (by
        unfold SX2_run_7
        dsimp only
        rw [if_pos (nI_le (by omega) (by omega))]), Or.inl ⟨c, a, _, _, _, rfl, rfl, h⟩⟩
    have hpn : p < n := by omega
    rw [if_neg hpn']
    obtain ⟨z, z1, z2, z3, z4⟩ := ord_cls (sg := sg) hn hp nb
    cases hb : (rdO (tAt n sg) p).1 with
    | false =>
      rw [if_pos rfl]
      refine ⟨_, itr_r (step := SX2_run_7 (nI n) sg fp fr fc) (r := .inr (-1, z.2.1, nI p, 1, nI (rdO (tAt n sg) p).2.1 - nI p, z.2.2, f)) (by
        unfold SX2_run_7
        dsimp only
        rw [if_neg (nI_ge hpn (by omega)), if_neg (show ¬ (60 : Int32) ≤ nI c from nI_ge (b := 60) (by omega) (by omega)), z1, Option.bind_some, if_pos (z3 hb), z2]
        rfl), Or.inr ⟨_, _, _, _, _, _, rfl, rfl⟩⟩
    | true =>
      rw [if_neg (by decide)]
      obtain ⟨y1, y2, y3, y4⟩ := z4 hb
      have hq := rdO_up _ hb
      have hC := C_order (fp := fp) (fr := fr) (fc := fc) (f := f) hn hpn hc z1 y1
      have hv : ∀ v ∈ (rdO (tAt n sg) p).2.2, v < 1000 := by
        unfold rdO
        split
        · exact fun v hv => absurd hv List.not_mem_nil
        · exact rdN_nums _ _ _ _ (fun v hv => absurd hv List.not_mem_nil)
      obtain ⟨g, g1, g2⟩ := sw_ok h hg.1 y2 y3 hv y4
      rw [g1, Option.bind_some] at hC
      unfold kC at hC
      rcases ok_ord hg (tAt n sg p) (rdO (tAt n sg) p).2.2 with ⟨e1, e2⟩ | ⟨⟨k, k1, k2⟩, e2⟩
      · have xn : ¬ 0 ≤ (oOrd a (tAt n sg p) (rdO (tAt n sg) p).2.2).1 := by
          rcases e1 with e | e | e <;> rw [e] <;> decide
        have xl : (oOrd a (tAt n sg p) (rdO (tAt n sg) p).2.2).1 < 0 := by
          rcases e1 with e | e | e <;> rw [e] <;> decide
        rw [if_neg xn] at hC
        rw [if_pos xl]
        exact ⟨_, itr_r (step := SX2_run_7 (nI n) sg fp fr fc) hC, Or.inr ⟨_, _, _, _, _, _, rfl, rfl⟩⟩
      · rw [if_pos (show 0 ≤ (oOrd a (tAt n sg p) (rdO (tAt n sg) p).2.2).1 by rw [k2]; exact nI_pos' (by omega)), nI_1, z2] at hC
        rw [if_neg (show ¬ (oOrd a (tAt n sg p) (rdO (tAt n sg) p).2.2).1 < 0 by rw [k2]; exact nI_pos (by omega)), itr_l (step := SX2_run_7 (nI n) sg fp fr fc) hC]
        exact ih _ (c + 1) F1 F2 z.2.2 g _ (N + 1) (by omega) (by omega) (by omega) (by omega) (by omega) g2 e2
/-- what comes out of a run -/
def runW (n : Nat) (sg : Nat → Int32) (a : Abs) : (Int32 × Int32 × Int32) ⊕ (Nat × Abs) := aRun (tAt n sg) n 100 0 0 a
theorem run_okC (hn : n ≤ 60) {a : Abs} {f : Nat → Int32} {N : Nat} (h : RepC a f) (hg : GoodA N a) (at0 : Int32) (nb : Nat → Int32) : ∃ z, MX2_run (nI n) at0 fp fr fc sg nb f = some z ∧ ((∃ c a', runW n sg a = .inr (c, a') ∧ z.1 = nI c ∧ RepC a' z.2.2.2.2.2.2) ∨ (∃ x y u, runW n sg a = .inl (x, y, u) ∧ z.1 = -1 ∧ z.2.2.1 = x ∧ z.2.2.2.1 = y ∧ z.2.2.2.2.1 = u)) := by
  unfold MX2_run
  obtain ⟨z, e1, e3⟩ := run_cls (sg := sg) (fp := fp) (fr := fr) (fc := fc) hn n 0 0 FU 100 nb f a N (by omega) (by omega) (by omega) (FU_lt (by omega)) (by omega) h hg
  rw [show itr (SX2_run_7 (nI n) sg fp fr fc) FU (0, 0, nb, f) = some z from e1, Option.bind_some]
  rcases e3 with ⟨c, a', at', nb', f', w1, rfl, w3⟩ | ⟨x, y, u, at', nb', f', w1, rfl⟩
  · exact ⟨_, rfl, Or.inl ⟨c, a', w1, rfl, w3⟩⟩
  · exact ⟨_, rfl, Or.inr ⟨x, y, u, w1, rfl, rfl, rfl, rfl⟩⟩
/-- a run's answers: a fault within the text, or all orders done -/
def saysW (t : Nat → Int32) (n M : Nat) (w : (Int32 × Int32 × Int32) ⊕ (Nat × Abs)) : Prop := match w with
  | .inl x => ∃ q, q < n ∧ x.1 = nI q ∧ ((x.2.1 = 1 ∧ ∃ k, x.2.2 = nI k ∧ q + k ≤ n) ∨ (x.2.1 = 2 ∧ (x.2.2 = -1000001 ∨ x.2.2 = -1000002 ∨ x.2.2 = -1000003)))
  | .inr x => x.1 = cntL t n ∧ GoodA (M + x.1) x.2
theorem rdO_end {p : Nat} (hp : p < n) : p ≤ (rdO (tAt n sg) p).2.1 ∧ (rdO (tAt n sg) p).2.1 ≤ n := by
  unfold rdO
  split
  · exact ⟨Nat.le_refl _, by show p ≤ n; omega⟩
  · have h1 := rdN_le (tAt n sg) (mOf (tAt n sg p)) (p + 1) []
    have h2 := rdN_end n sg (mOf (tAt n sg p)) (p + 1) [] (by omega)
    exact ⟨by omega, h2⟩
theorem rdO_cnt (t : Nat → Int32) {p : Nat} (h : (rdO t p).1 = true) : cntL t (rdO t p).2.1 = cntL t p + 1 := by
  have hq := rdO_up t h
  have hm : 0 < mOf (t p) := by
    unfold rdO at h
    split at h
    · cases h
    · next q => omega
  have e : (rdO t p).2.1 = (p + 1) + ((rdO t p).2.1 - (p + 1)) := by omega
  rw [e, cntL_none t _ (p + 1) (fun i h1 h2 => ?_)]
  · show cntL t p + b1 (decide (0 < mOf (t p))) = cntL t p + 1
    rw [decide_eq_true hm]
    rfl
  · have h3 : i < (rdO t p).2.1 := by omega
    unfold rdO at h3
    rw [if_neg (by omega)] at h3
    exact rdN_let t _ _ _ i h1 h3
theorem run_says (h0 : n ≤ 60) : ∀ F p c a M, p ≤ n → n < p + F → GoodA (M + c) a → c = cntL (tAt n sg) p → saysW (tAt n sg) n M (aRun (tAt n sg) n F p c a)
  | 0, p, c, a, M, h1, h2, hg, hc => absurd h2 (by omega)
  | F + 1, p, c, a, M, h1, h2, hg, hc => by
    unfold aRun
    by_cases hpn : n ≤ p
    · rw [if_pos hpn]
      have : p = n := by omega
      subst this
      exact ⟨hc, hg⟩
    · rw [if_neg hpn]
      have hq := rdO_end (sg := sg) (n := n) (p := p) (by omega)
      cases hb : (rdO (tAt n sg) p).1 with
      | false =>
        rw [if_pos rfl]
        refine ⟨p, by omega, rfl, Or.inl ⟨rfl, (rdO (tAt n sg) p).2.1 - p, ?_, by omega⟩⟩
        show nI (rdO (tAt n sg) p).2.1 - nI p = _
        rw [pk_sub hq.1]
      | true =>
        rw [if_neg (by decide)]
        rcases ok_ord hg (tAt n sg p) (rdO (tAt n sg) p).2.2 with ⟨e1, e2⟩ | ⟨⟨k, k1, k2⟩, e2⟩
        · rw [if_pos (show (oOrd a (tAt n sg p) (rdO (tAt n sg) p).2.2).1 < 0 by rcases e1 with e | e | e <;> rw [e] <;> decide)]
          exact ⟨p, by omega, rfl, Or.inr ⟨rfl, e1⟩⟩
        · rw [if_neg (show ¬ (oOrd a (tAt n sg p) (rdO (tAt n sg) p).2.2).1 < 0 by rw [k2]; exact nI_pos (by omega))]
          have hu := rdO_up _ hb
          exact run_says h0 F _ (c + 1) _ M hq.2 (by omega) e2 (by rw [rdO_cnt _ hb, hc])
theorem runW_says (h0 : n ≤ 60) {a : Abs} {N : Nat} (hg : GoodA N a) : saysW (tAt n sg) n N (runW n sg a) :=
  run_says h0 100 0 0 a N (Nat.zero_le _) (by omega) hg rfl
end RUNS
