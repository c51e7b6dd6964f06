/-! the class's search for the best order -/
def RelC (m : Nat) (x : Acc) (su : Int32) (be : Nat → Int32) : Prop := match x with
  | none => su = -1
  | some y => su = nI y.1 ∧ y.1 ≤ 32 ∧ y.2.length = m ∧ ∀ i, i < m → be i = nI (y.2.getD i 0)
def RelT (d : Nat) (p : List Nat) (tr : Nat → Int32) : Prop := p.length = d ∧ ∀ i, i < d → tr i = nI (p.getD i 0)
theorem le_sum {m g : Nat} {x : Acc} {su : Int32} {be : Nat → Int32} (h : RelC m x su be) (hg : g < 2 ^ 31) : nI g ≤ su ↔ (g : Int) ≤ aSum x := by
  cases x with
  | none =>
    have h : su = -1 := h
    subst h
    constructor
    · intro z
      rw [Int32.le_iff_toInt_le, nI_toInt hg] at z
      exact z
    · intro z
      exact absurd z (show ¬ (g : Int) ≤ -1 by omega)
  | some y =>
    have h1 : su = nI y.1 := h.1
    have h2 : y.1 ≤ 32 := h.2.1
    rw [h1, Int32.le_iff_toInt_le, nI_toInt hg, nI_toInt (by omega)]
    exact Iff.rfl
theorem cp4 (f g : Nat → Int32) : ∃ v, cpA 4 4 f g 0 0 4 = some v ∧ ∀ i, i < 4 → v i = f i := by
  refine ⟨_, if_pos (by decide), fun i hi => ?_⟩
  show va_cpy f g 0 0 4 i = f i
  rw [pk_cpy_in (Nat.zero_le _) (by omega), Nat.zero_add, Nat.sub_zero]
theorem C_copy (f g : Nat → Int32) : ∃ v, MX3_copyFrom f g = some v ∧ ∀ i, i < 352 → v i = g i := by
  unfold MX3_copyFrom
  have : cpA 352 352 g f 0 0 352 = some (va_cpy g f 0 0 352) := if_pos (by decide)
  rw [this, Option.bind_some]
  refine ⟨_, rfl, fun i hi => ?_⟩
  rw [pk_cpy_in (Nat.zero_le _) (by omega), Nat.zero_add, Nat.sub_zero]
theorem C_keep {m g : Nat} {p : List Nat} {x : Acc} {su : Int32} {tr be : Nat → Int32} (hm : m ≤ 4) (hx : RelC m x su be) (ht : RelT m p tr) (hg : g ≤ 32) : ∃ z, MX1_keepIfBetter su tr be (nI g) = some z ∧ RelC m (keepA g p x) z.1 z.2 := by
  unfold MX1_keepIfBetter keepA
  by_cases q : (g : Int) ≤ aSum x
  · rw [if_pos ((le_sum hx (by omega)).mpr q), if_pos q]
    exact ⟨_, rfl, hx⟩
  · rw [if_neg (fun z => q ((le_sum hx (by omega)).mp z)), if_neg q]
    obtain ⟨v, v1, v2⟩ := cp4 tr be
    rw [v1, Option.bind_some]
    exact ⟨_, rfl, rfl, hg, ht.1, fun i hi => (v2 i (by omega)).trans (ht.2 i hi)⟩
theorem RelT_snoc {d j : Nat} {p : List Nat} {tr tr' : Nat → Int32} (h : RelT d p tr) (e : ∀ i, i < d → tr' i = tr i) : RelT (d + 1) (p ++ [j]) (upd tr' d (nI j)) := by
  refine ⟨by rw [List.length_append, h.1]; rfl, fun i hi => ?_⟩
  rw [List.getD_eq_getElem?_getD]
  by_cases y : i = d
  · subst y
    rw [pk_us, List.getElem?_append_right (by rw [h.1]; exact Nat.le_refl _), h.1, Nat.sub_self]
    rfl
  · rw [pk_un y, e i (by omega), h.2 i (by omega), List.getElem?_append_left (by rw [h.1]; omega), ← List.getD_eq_getElem?_getD]
section SEARCH
variable {a : Abs} {f : Nat → Int32}
theorem RepC_agree {v : Nat → Int32} (h : RepC a f) (hi : aInv a) (e : ∀ j, j < 352 → v j = f j) : RepC a v := by
  obtain ⟨⟨q1, q2, q3, q4⟩, q5, q6, q7, q8⟩ := h
  have hn := hi.1.2
  refine ⟨⟨?_, ?_, ?_, ?_⟩, fun i i1 i2 => ?_, fun r hr => ?_, fun r c hr hc => ?_, fun r k y hr hy => ?_⟩
  · rw [e _ (by omega)]; exact q1
  · rw [e _ (by omega)]; exact q2
  · rw [e _ (by omega)]; exact q3
  · rw [e _ (by omega)]; exact q4
  · rw [e _ (by omega)]; exact q5 i i1 i2
  · rw [e _ (by omega), e _ (by omega), e _ (by omega), e _ (by omega), e _ (by omega), e _ (by omega)]; exact q6 r hr
  · rw [e _ (by omega), e _ (by omega)]; exact q7 r c hr hc
  · have h1 := inv_len hi hr
    have h2 : k < (aM a r).length := by
      rcases Nat.lt_or_ge k (aM a r).length with w | w
      · exact w
      · rw [List.getElem?_eq_none w] at hy
        cases hy
    rw [e _ (by omega)]; exact q8 r k y hr hy
theorem nl_le (a : Abs) : aNl a ≤ aG a 0 := sm_b1_le _ _
theorem still_le (a : Abs) : aStill a ≤ 8 * aG a 0 := sm_ub _ (fun k _ => by
  have := aBack_le a k
  split <;> omega)
theorem C_lost (h : RepC a f) (hi : aInv a) : MX1_lostRows f = some (nI (aNl a)) := by
  have hn := hi.1
  unfold MX1_lostRows
  suffices hs : itr (SX1_lostRows_4 f) FU (0, 0) = some (nI (aNl a)) by
    rw [hs, Option.bind_some]
  refine itr_for (step := SX1_lostRows_4 f) (aG a 0) (fun k => (nI (sm (fun r => b1 (decide (aF a 1 r = 0))) k), nI k)) (nI (aNl a)) (fun k hk => ?_) ?_ FU (FU_lt (by omega))
  · unfold SX1_lostRows_4
    dsimp only
    rw [C_n h, Option.bind_some, if_neg (nI_ge hk (by omega)), C_livesb h hi hk, Option.bind_some, nI_1]
    have h01 := (hi.2.2.2.2.1 k hk).2.2.2.2.1
    by_cases q : aF a 1 k = 0
    · rw [if_neg (show ¬ aF a 1 k = 1 by omega), if_pos rfl, nI_1]
      show _ = some (Sum.inl (nI (sm _ k + b1 (decide (aF a 1 k = 0))), _))
      rw [decide_eq_true q]
      rfl
    · rw [if_pos (show aF a 1 k = 1 by omega), if_neg one_n0, Int32.add_zero, nI_1]
      show _ = some (Sum.inl (nI (sm _ k + b1 (decide (aF a 1 k = 0))), _))
      rw [decide_eq_false q]
      rfl
  · unfold SX1_lostRows_4
    dsimp only
    rw [C_n h, Option.bind_some, if_pos (nI_le (Nat.le_refl _) (by omega))]
    rfl
theorem C_still (h : RepC a f) (hi : aInv a) : MX1_stillComing f = some (nI (aStill a)) := by
  have hn := hi.1
  unfold MX1_stillComing
  suffices hs : itr (SX1_stillComing_4 f) FU (0, 0) = some (nI (aStill a)) by
    rw [hs, Option.bind_some]
  refine itr_for (step := SX1_stillComing_4 f) (aG a 0) (fun k => (nI (sm (fun r => if aF a 1 r = 0 then aBack a r else 0) k), nI k)) (nI (aStill a)) (fun k hk => ?_) ?_ FU (FU_lt (by omega))
  · unfold SX1_stillComing_4
    dsimp only
    rw [C_n h, Option.bind_some, if_neg (nI_ge hk (by omega)), C_livesb h hi hk, Option.bind_some, nI_1]
    have h01 := (hi.2.2.2.2.1 k hk).2.2.2.2.1
    by_cases q : aF a 1 k = 0
    · rw [if_neg (show ¬ aF a 1 k = 1 by omega), if_pos rfl, C_back h hi hk, Option.bind_some, nI_add]
      show _ = some (Sum.inl (nI (sm _ k + if aF a 1 k = 0 then aBack a k else 0), _))
      rw [if_pos q]
    · rw [if_pos (show aF a 1 k = 1 by omega), if_neg one_n0, Int32.add_zero]
      show _ = some (Sum.inl (nI (sm _ k + if aF a 1 k = 0 then aBack a k else 0), _))
      rw [if_neg q]
      rfl
  · unfold SX1_stillComing_4
    dsimp only
    rw [C_n h, Option.bind_some, if_pos (nI_le (Nat.le_refl _) (by omega))]
    rfl
theorem C_try4 {m n : Nat} (hm : m ≤ 4) (h : RepC a f) (hi : aInv a) (_hG : aG a 0 = n) {su : Int32} {tr be : Nat → Int32} {g : Nat} {p : List Nat} {x : Acc} (hd : 4 + aNl a = m) (hg : g ≤ 32) (ht : RelT 4 p tr) (hx : RelC m x su be) : ∃ z, MX1_tryOrders_4 su tr be f (nI g) = some z ∧ RelC m (pds n (aNl a) a g p x) z.1 z.2 := by
  have q : aNl a = 0 := by omega
  have : m = 4 := by omega
  subst this
  unfold MX1_tryOrders_4
  rw [C_lost h hi, Option.bind_some, q, if_pos (by decide)]
  obtain ⟨y, e1, e2⟩ := C_keep hm hx ht hg
  rw [e1, Option.bind_some]
  exact ⟨_, rfl, e2⟩
theorem C_try3 {m n : Nat} (hm : m ≤ 4) (h : RepC a f) (hi : aInv a) (hG : aG a 0 = n) {su : Int32} {st3 tr be : Nat → Int32} {g : Nat} {p : List Nat} {x : Acc} (hd : 3 + aNl a = m) (hg : g ≤ 24) (ht : RelT 3 p tr) (hx : RelC m x su be) : ∃ z, MX1_tryOrders_3 su st3 tr be f (nI g) = some z ∧ (∀ i, i < 3 → z.2.2.1 i = tr i) ∧ RelC m (pds n (aNl a) a g p x) z.1 z.2.2.2 := by
  unfold MX1_tryOrders_3
  have hn := hi.1
  have hst := still_le a
  rw [C_lost h hi, Option.bind_some]
  rcases Nat.eq_zero_or_pos (aNl a) with q | q
  · have : m = 3 := by omega
    subst this
    rw [q, if_pos (by decide)]
    obtain ⟨y, e1, e2⟩ := C_keep (g := g) hm hx ht (by omega)
    rw [e1, Option.bind_some]
    exact ⟨_, rfl, fun _ _ => rfl, e2⟩
  · obtain ⟨k, hk⟩ : ∃ k, aNl a = k + 1 := ⟨aNl a - 1, by omega⟩
    have hnl := nl_le a
    rw [if_neg (nI_ne0 q (by omega)), C_still h hi, Option.bind_some, hk]
    obtain ⟨r, e1, e2, e3⟩ := itr_gen (step := SX1_tryOrders_3_51 f (nI g) (nI (aStill a))) n (fun j s => s.1 = nI j ∧ RelC m (foldN (fun r y => if aF a 1 r = 0 ∧ ¬ ((g + aStill a : Nat) : Int) ≤ aSum y then pds n k (aMend a r).2 (g + aBack a r) (p ++ [r]) y else y) x j) s.2.1 s.2.2.2.2 ∧ ∀ i, i < 3 → s.2.2.2.1 i = tr i) (fun r => RelC m (foldN (fun r y => if aF a 1 r = 0 ∧ ¬ ((g + aStill a : Nat) : Int) ≤ aSum y then pds n k (aMend a r).2 (g + aBack a r) (p ++ [r]) y else y) x n) r.1 r.2.2.2 ∧ ∀ i, i < 3 → r.2.2.1 i = tr i) (fun j s hj hI => by
      obtain ⟨q1, q2, q3⟩ := hI
      rcases Nat.lt_or_ge j n with w | w
      · left
        refine ⟨w, ?_⟩
        have hj' : j < aG a 0 := by omega
        have h01 := (hi.2.2.2.2.1 j hj').2.2.2.2.1
        unfold SX1_tryOrders_3_51
        rw [C_n h, Option.bind_some, q1, hG, if_neg (nI_ge w (by omega)), C_livesb h hi hj', Option.bind_some]
        by_cases l : aF a 1 j = 0
        · rw [if_neg (show ¬ aF a 1 j = 1 by omega), if_pos rfl, nI_add]
          by_cases c : ((g + aStill a : Nat) : Int) ≤ aSum (foldN (fun r y => if aF a 1 r = 0 ∧ ¬ ((g + aStill a : Nat) : Int) ≤ aSum y then pds n k (aMend a r).2 (g + aBack a r) (p ++ [r]) y else y) x j)
          · rw [if_pos ((le_sum q2 (by omega)).mpr c), nI_1]
            refine ⟨_, rfl, rfl, ?_, q3⟩
            show RelC m (if aF a 1 j = 0 ∧ ¬ ((g + aStill a : Nat) : Int) ≤ aSum (foldN (fun r y => if aF a 1 r = 0 ∧ ¬ ((g + aStill a : Nat) : Int) ≤ aSum y then pds n k (aMend a r).2 (g + aBack a r) (p ++ [r]) y else y) x j) then _ else _) _ _
            rw [if_neg (fun z => z.2 c)]
            exact q2
          · rw [if_neg (fun z => c ((le_sum q2 (by omega)).mp z))]
            obtain ⟨v, v1, v2⟩ := C_copy s.2.2.1 f
            have v3 := RepC_agree h hi v2
            obtain ⟨g', m1, m2⟩ := C_mend v3 hi (r := j) hj' l
            have hb := aBack_le a j
            have hnm := nl_mend hj' l
            rw [v1, Option.bind_some, show stA 4 s.2.2.2.1 3 (nI j) = some (upd s.2.2.2.1 3 (nI j)) from stA_nI (i := 3) _ (by decide) (by decide), Option.bind_some, m1, Option.bind_some]
            dsimp only
            obtain ⟨z, z1, z3⟩ := C_try4 hm (n := n) m2 (mend_inv hi hj') (by rw [mend_G]; exact hG) (su := s.2.1) (tr := upd s.2.2.2.1 3 (nI j)) (be := s.2.2.2.2) (g := g + aBack a j) (p := p ++ [j]) (x := foldN (fun r y => if aF a 1 r = 0 ∧ ¬ ((g + aStill a : Nat) : Int) ≤ aSum y then pds n k (aMend a r).2 (g + aBack a r) (p ++ [r]) y else y) x j) (by omega) (by omega) (RelT_snoc ht q3) q2
            rw [show (aMend a j).1 = aBack a j from rfl, nI_add, nI_1, z1, Option.bind_some]
            refine ⟨_, rfl, rfl, ?_, ?_⟩
            · show RelC m (if aF a 1 j = 0 ∧ ¬ ((g + aStill a : Nat) : Int) ≤ aSum (foldN (fun r y => if aF a 1 r = 0 ∧ ¬ ((g + aStill a : Nat) : Int) ≤ aSum y then pds n k (aMend a r).2 (g + aBack a r) (p ++ [r]) y else y) x j) then _ else _) _ _
              rw [if_pos ⟨l, c⟩]
              rw [show aNl (aMend a j).2 = k by omega] at z3
              exact z3
            · intro i hi'
              exact (pk_un (by omega)).trans (q3 i hi')
        · rw [if_pos (show aF a 1 j = 1 by omega), if_neg one_n0, nI_1]
          refine ⟨_, rfl, rfl, ?_, q3⟩
          show RelC m (if aF a 1 j = 0 ∧ ¬ ((g + aStill a : Nat) : Int) ≤ aSum (foldN (fun r y => if aF a 1 r = 0 ∧ ¬ ((g + aStill a : Nat) : Int) ≤ aSum y then pds n k (aMend a r).2 (g + aBack a r) (p ++ [r]) y else y) x j) then _ else _) _ _
          rw [if_neg (fun z => l z.1)]
          exact q2
      · right
        have : j = n := by omega
        subst this
        unfold SX1_tryOrders_3_51
        rw [C_n h, Option.bind_some, q1, hG, if_pos (nI_le (Nat.le_refl _) (by omega))]
        exact ⟨_, rfl, q2, q3⟩) FU (0, su, st3, tr, be) (FU_lt (by omega)) ⟨rfl, hx, fun _ _ => rfl⟩
    rw [e1, Option.bind_some]
    exact ⟨_, rfl, e3, e2⟩
theorem C_try2 {m n : Nat} (hm : m ≤ 4) (h : RepC a f) (hi : aInv a) (hG : aG a 0 = n) {su : Int32} {st2 st3 tr be : Nat → Int32} {g : Nat} {p : List Nat} {x : Acc} (hd : 2 + aNl a = m) (hg : g ≤ 16) (ht : RelT 2 p tr) (hx : RelC m x su be) : ∃ z, MX1_tryOrders_2 su st2 st3 tr be f (nI g) = some z ∧ (∀ i, i < 2 → z.2.2.2.1 i = tr i) ∧ RelC m (pds n (aNl a) a g p x) z.1 z.2.2.2.2 := by
  unfold MX1_tryOrders_2
  have hn := hi.1
  have hst := still_le a
  rw [C_lost h hi, Option.bind_some]
  rcases Nat.eq_zero_or_pos (aNl a) with q | q
  · have : m = 2 := by omega
    subst this
    rw [q, if_pos (by decide)]
    obtain ⟨y, e1, e2⟩ := C_keep (g := g) hm hx ht (by omega)
    rw [e1, Option.bind_some]
    exact ⟨_, rfl, fun _ _ => rfl, e2⟩
  · obtain ⟨k, hk⟩ : ∃ k, aNl a = k + 1 := ⟨aNl a - 1, by omega⟩
    have hnl := nl_le a
    rw [if_neg (nI_ne0 q (by omega)), C_still h hi, Option.bind_some, hk]
    obtain ⟨r, e1, e2, e3⟩ := itr_gen (step := SX1_tryOrders_2_51 f (nI g) (nI (aStill a))) n (fun j s => s.1 = nI j ∧ RelC m (foldN (fun r y => if aF a 1 r = 0 ∧ ¬ ((g + aStill a : Nat) : Int) ≤ aSum y then pds n k (aMend a r).2 (g + aBack a r) (p ++ [r]) y else y) x j) s.2.1 s.2.2.2.2.2 ∧ ∀ i, i < 2 → s.2.2.2.2.1 i = tr i) (fun r => RelC m (foldN (fun r y => if aF a 1 r = 0 ∧ ¬ ((g + aStill a : Nat) : Int) ≤ aSum y then pds n k (aMend a r).2 (g + aBack a r) (p ++ [r]) y else y) x n) r.1 r.2.2.2.2 ∧ ∀ i, i < 2 → r.2.2.2.1 i = tr i) (fun j s hj hI => by
      obtain ⟨q1, q2, q3⟩ := hI
      rcases Nat.lt_or_ge j n with w | w
      · left
        refine ⟨w, ?_⟩
        have hj' : j < aG a 0 := by omega
        have h01 := (hi.2.2.2.2.1 j hj').2.2.2.2.1
        unfold SX1_tryOrders_2_51
        rw [C_n h, Option.bind_some, q1, hG, if_neg (nI_ge w (by omega)), C_livesb h hi hj', Option.bind_some]
        by_cases l : aF a 1 j = 0
        · rw [if_neg (show ¬ aF a 1 j = 1 by omega), if_pos rfl, nI_add]
          by_cases c : ((g + aStill a : Nat) : Int) ≤ aSum (foldN (fun r y => if aF a 1 r = 0 ∧ ¬ ((g + aStill a : Nat) : Int) ≤ aSum y then pds n k (aMend a r).2 (g + aBack a r) (p ++ [r]) y else y) x j)
          · rw [if_pos ((le_sum q2 (by omega)).mpr c), nI_1]
            refine ⟨_, rfl, rfl, ?_, q3⟩
            show RelC m (if aF a 1 j = 0 ∧ ¬ ((g + aStill a : Nat) : Int) ≤ aSum (foldN (fun r y => if aF a 1 r = 0 ∧ ¬ ((g + aStill a : Nat) : Int) ≤ aSum y then pds n k (aMend a r).2 (g + aBack a r) (p ++ [r]) y else y) x j) then _ else _) _ _
            rw [if_neg (fun z => z.2 c)]
            exact q2
          · rw [if_neg (fun z => c ((le_sum q2 (by omega)).mp z))]
            obtain ⟨v, v1, v2⟩ := C_copy s.2.2.1 f
            have v3 := RepC_agree h hi v2
            obtain ⟨g', m1, m2⟩ := C_mend v3 hi (r := j) hj' l
            have hb := aBack_le a j
            have hnm := nl_mend hj' l
            rw [v1, Option.bind_some, show stA 4 s.2.2.2.2.1 2 (nI j) = some (upd s.2.2.2.2.1 2 (nI j)) from stA_nI (i := 2) _ (by decide) (by decide), Option.bind_some, m1, Option.bind_some]
            dsimp only
            obtain ⟨z, z1, z2, z3⟩ := C_try3 hm (n := n) m2 (mend_inv hi hj') (by rw [mend_G]; exact hG) (su := s.2.1) (tr := upd s.2.2.2.2.1 2 (nI j)) (be := s.2.2.2.2.2) (st3 := s.2.2.2.1) (g := g + aBack a j) (p := p ++ [j]) (x := foldN (fun r y => if aF a 1 r = 0 ∧ ¬ ((g + aStill a : Nat) : Int) ≤ aSum y then pds n k (aMend a r).2 (g + aBack a r) (p ++ [r]) y else y) x j) (by omega) (by omega) (RelT_snoc ht q3) q2
            rw [show (aMend a j).1 = aBack a j from rfl, nI_add, nI_1, z1, Option.bind_some]
            refine ⟨_, rfl, rfl, ?_, ?_⟩
            · show RelC m (if aF a 1 j = 0 ∧ ¬ ((g + aStill a : Nat) : Int) ≤ aSum (foldN (fun r y => if aF a 1 r = 0 ∧ ¬ ((g + aStill a : Nat) : Int) ≤ aSum y then pds n k (aMend a r).2 (g + aBack a r) (p ++ [r]) y else y) x j) then _ else _) _ _
              rw [if_pos ⟨l, c⟩]
              rw [show aNl (aMend a j).2 = k by omega] at z3
              exact z3
            · intro i hi'
              exact (z2 i (by omega)).trans ((pk_un (by omega)).trans (q3 i hi'))
        · rw [if_pos (show aF a 1 j = 1 by omega), if_neg one_n0, nI_1]
          refine ⟨_, rfl, rfl, ?_, q3⟩
          show RelC m (if aF a 1 j = 0 ∧ ¬ ((g + aStill a : Nat) : Int) ≤ aSum (foldN (fun r y => if aF a 1 r = 0 ∧ ¬ ((g + aStill a : Nat) : Int) ≤ aSum y then pds n k (aMend a r).2 (g + aBack a r) (p ++ [r]) y else y) x j) then _ else _) _ _
          rw [if_neg (fun z => l z.1)]
          exact q2
      · right
        have : j = n := by omega
        subst this
        unfold SX1_tryOrders_2_51
        rw [C_n h, Option.bind_some, q1, hG, if_pos (nI_le (Nat.le_refl _) (by omega))]
        exact ⟨_, rfl, q2, q3⟩) FU (0, su, st2, st3, tr, be) (FU_lt (by omega)) ⟨rfl, hx, fun _ _ => rfl⟩
    rw [e1, Option.bind_some]
    exact ⟨_, rfl, e3, e2⟩
theorem C_try1 {m n : Nat} (hm : m ≤ 4) (h : RepC a f) (hi : aInv a) (hG : aG a 0 = n) {su : Int32} {st1 st2 st3 tr be : Nat → Int32} {g : Nat} {p : List Nat} {x : Acc} (hd : 1 + aNl a = m) (hg : g ≤ 8) (ht : RelT 1 p tr) (hx : RelC m x su be) : ∃ z, MX1_tryOrders_1 su st1 st2 st3 tr be f (nI g) = some z ∧ (∀ i, i < 1 → z.2.2.2.2.1 i = tr i) ∧ RelC m (pds n (aNl a) a g p x) z.1 z.2.2.2.2.2 := by
  unfold MX1_tryOrders_1
  have hn := hi.1
  have hst := still_le a
  rw [C_lost h hi, Option.bind_some]
  rcases Nat.eq_zero_or_pos (aNl a) with q | q
  · have : m = 1 := by omega
    subst this
    rw [q, if_pos (by decide)]
    obtain ⟨y, e1, e2⟩ := C_keep (g := g) hm hx ht (by omega)
    rw [e1, Option.bind_some]
    exact ⟨_, rfl, fun _ _ => rfl, e2⟩
  · obtain ⟨k, hk⟩ : ∃ k, aNl a = k + 1 := ⟨aNl a - 1, by omega⟩
    have hnl := nl_le a
    rw [if_neg (nI_ne0 q (by omega)), C_still h hi, Option.bind_some, hk]
    obtain ⟨r, e1, e2, e3⟩ := itr_gen (step := SX1_tryOrders_1_51 f (nI g) (nI (aStill a))) n (fun j s => s.1 = nI j ∧ RelC m (foldN (fun r y => if aF a 1 r = 0 ∧ ¬ ((g + aStill a : Nat) : Int) ≤ aSum y then pds n k (aMend a r).2 (g + aBack a r) (p ++ [r]) y else y) x j) s.2.1 s.2.2.2.2.2.2 ∧ ∀ i, i < 1 → s.2.2.2.2.2.1 i = tr i) (fun r => RelC m (foldN (fun r y => if aF a 1 r = 0 ∧ ¬ ((g + aStill a : Nat) : Int) ≤ aSum y then pds n k (aMend a r).2 (g + aBack a r) (p ++ [r]) y else y) x n) r.1 r.2.2.2.2.2 ∧ ∀ i, i < 1 → r.2.2.2.2.1 i = tr i) (fun j s hj hI => by
      obtain ⟨q1, q2, q3⟩ := hI
      rcases Nat.lt_or_ge j n with w | w
      · left
        refine ⟨w, ?_⟩
        have hj' : j < aG a 0 := by omega
        have h01 := (hi.2.2.2.2.1 j hj').2.2.2.2.1
        unfold SX1_tryOrders_1_51
        rw [C_n h, Option.bind_some, q1, hG, if_neg (nI_ge w (by omega)), C_livesb h hi hj', Option.bind_some]
        by_cases l : aF a 1 j = 0
        · rw [if_neg (show ¬ aF a 1 j = 1 by omega), if_pos rfl, nI_add]
          by_cases c : ((g + aStill a : Nat) : Int) ≤ aSum (foldN (fun r y => if aF a 1 r = 0 ∧ ¬ ((g + aStill a : Nat) : Int) ≤ aSum y then pds n k (aMend a r).2 (g + aBack a r) (p ++ [r]) y else y) x j)
          · rw [if_pos ((le_sum q2 (by omega)).mpr c), nI_1]
            refine ⟨_, rfl, rfl, ?_, q3⟩
            show RelC m (if aF a 1 j = 0 ∧ ¬ ((g + aStill a : Nat) : Int) ≤ aSum (foldN (fun r y => if aF a 1 r = 0 ∧ ¬ ((g + aStill a : Nat) : Int) ≤ aSum y then pds n k (aMend a r).2 (g + aBack a r) (p ++ [r]) y else y) x j) then _ else _) _ _
            rw [if_neg (fun z => z.2 c)]
            exact q2
          · rw [if_neg (fun z => c ((le_sum q2 (by omega)).mp z))]
            obtain ⟨v, v1, v2⟩ := C_copy s.2.2.1 f
            have v3 := RepC_agree h hi v2
            obtain ⟨g', m1, m2⟩ := C_mend v3 hi (r := j) hj' l
            have hb := aBack_le a j
            have hnm := nl_mend hj' l
            rw [v1, Option.bind_some, show stA 4 s.2.2.2.2.2.1 1 (nI j) = some (upd s.2.2.2.2.2.1 1 (nI j)) from stA_nI (i := 1) _ (by decide) (by decide), Option.bind_some, m1, Option.bind_some]
            dsimp only
            obtain ⟨z, z1, z2, z3⟩ := C_try2 hm (n := n) m2 (mend_inv hi hj') (by rw [mend_G]; exact hG) (su := s.2.1) (tr := upd s.2.2.2.2.2.1 1 (nI j)) (be := s.2.2.2.2.2.2) (st2 := s.2.2.2.1) (st3 := s.2.2.2.2.1) (g := g + aBack a j) (p := p ++ [j]) (x := foldN (fun r y => if aF a 1 r = 0 ∧ ¬ ((g + aStill a : Nat) : Int) ≤ aSum y then pds n k (aMend a r).2 (g + aBack a r) (p ++ [r]) y else y) x j) (by omega) (by omega) (RelT_snoc ht q3) q2
            rw [show (aMend a j).1 = aBack a j from rfl, nI_add, nI_1, z1, Option.bind_some]
            refine ⟨_, rfl, rfl, ?_, ?_⟩
            · show RelC m (if aF a 1 j = 0 ∧ ¬ ((g + aStill a : Nat) : Int) ≤ aSum (foldN (fun r y => if aF a 1 r = 0 ∧ ¬ ((g + aStill a : Nat) : Int) ≤ aSum y then pds n k (aMend a r).2 (g + aBack a r) (p ++ [r]) y else y) x j) then _ else _) _ _
              rw [if_pos ⟨l, c⟩]
              rw [show aNl (aMend a j).2 = k by omega] at z3
              exact z3
            · intro i hi'
              exact (z2 i (by omega)).trans ((pk_un (by omega)).trans (q3 i hi'))
        · rw [if_pos (show aF a 1 j = 1 by omega), if_neg one_n0, nI_1]
          refine ⟨_, rfl, rfl, ?_, q3⟩
          show RelC m (if aF a 1 j = 0 ∧ ¬ ((g + aStill a : Nat) : Int) ≤ aSum (foldN (fun r y => if aF a 1 r = 0 ∧ ¬ ((g + aStill a : Nat) : Int) ≤ aSum y then pds n k (aMend a r).2 (g + aBack a r) (p ++ [r]) y else y) x j) then _ else _) _ _
          rw [if_neg (fun z => l z.1)]
          exact q2
      · right
        have : j = n := by omega
        subst this
        unfold SX1_tryOrders_1_51
        rw [C_n h, Option.bind_some, q1, hG, if_pos (nI_le (Nat.le_refl _) (by omega))]
        exact ⟨_, rfl, q2, q3⟩) FU (0, su, st1, st2, st3, tr, be) (FU_lt (by omega)) ⟨rfl, hx, fun _ _ => rfl⟩
    rw [e1, Option.bind_some]
    exact ⟨_, rfl, e3, e2⟩
theorem C_try0 {m n : Nat} (hm : m ≤ 4) (h : RepC a f) (hi : aInv a) (hG : aG a 0 = n) {su : Int32} {st0 st1 st2 st3 tr be : Nat → Int32} {g : Nat} {p : List Nat} {x : Acc} (hd : 0 + aNl a = m) (hg : g ≤ 0) (ht : RelT 0 p tr) (hx : RelC m x su be) : ∃ z, MX1_tryOrders_0 su st0 st1 st2 st3 tr be f (nI g) = some z ∧ (∀ i, i < 0 → z.2.2.2.2.2.1 i = tr i) ∧ RelC m (pds n (aNl a) a g p x) z.1 z.2.2.2.2.2.2 := by
  unfold MX1_tryOrders_0
  have hn := hi.1
  have hst := still_le a
  rw [C_lost h hi, Option.bind_some]
  rcases Nat.eq_zero_or_pos (aNl a) with q | q
  · have : m = 0 := by omega
    subst this
    rw [q, if_pos (by decide)]
    obtain ⟨y, e1, e2⟩ := C_keep (g := g) hm hx ht (by omega)
    rw [e1, Option.bind_some]
    exact ⟨_, rfl, fun _ _ => rfl, e2⟩
  · obtain ⟨k, hk⟩ : ∃ k, aNl a = k + 1 := ⟨aNl a - 1, by omega⟩
    have hnl := nl_le a
    rw [if_neg (nI_ne0 q (by omega)), C_still h hi, Option.bind_some, hk]
    obtain ⟨r, e1, e2, e3⟩ := itr_gen (step := SX1_tryOrders_0_51 f (nI g) (nI (aStill a))) n (fun j s => s.1 = nI j ∧ RelC m (foldN (fun r y => if aF a 1 r = 0 ∧ ¬ ((g + aStill a : Nat) : Int) ≤ aSum y then pds n k (aMend a r).2 (g + aBack a r) (p ++ [r]) y else y) x j) s.2.1 s.2.2.2.2.2.2.2 ∧ ∀ i, i < 0 → s.2.2.2.2.2.2.1 i = tr i) (fun r => RelC m (foldN (fun r y => if aF a 1 r = 0 ∧ ¬ ((g + aStill a : Nat) : Int) ≤ aSum y then pds n k (aMend a r).2 (g + aBack a r) (p ++ [r]) y else y) x n) r.1 r.2.2.2.2.2.2 ∧ ∀ i, i < 0 → r.2.2.2.2.2.1 i = tr i) (fun j s hj hI => by
      obtain ⟨q1, q2, q3⟩ := hI
      rcases Nat.lt_or_ge j n with w | w
      · left
        refine ⟨w, ?_⟩
        have hj' : j < aG a 0 := by omega
        have h01 := (hi.2.2.2.2.1 j hj').2.2.2.2.1
        unfold SX1_tryOrders_0_51
        rw [C_n h, Option.bind_some, q1, hG, if_neg (nI_ge w (by omega)), C_livesb h hi hj', Option.bind_some]
        by_cases l : aF a 1 j = 0
        · rw [if_neg (show ¬ aF a 1 j = 1 by omega), if_pos rfl, nI_add]
          by_cases c : ((g + aStill a : Nat) : Int) ≤ aSum (foldN (fun r y => if aF a 1 r = 0 ∧ ¬ ((g + aStill a : Nat) : Int) ≤ aSum y then pds n k (aMend a r).2 (g + aBack a r) (p ++ [r]) y else y) x j)
          · rw [if_pos ((le_sum q2 (by omega)).mpr c), nI_1]
            refine ⟨_, rfl, rfl, ?_, q3⟩
            show RelC m (if aF a 1 j = 0 ∧ ¬ ((g + aStill a : Nat) : Int) ≤ aSum (foldN (fun r y => if aF a 1 r = 0 ∧ ¬ ((g + aStill a : Nat) : Int) ≤ aSum y then pds n k (aMend a r).2 (g + aBack a r) (p ++ [r]) y else y) x j) then _ else _) _ _
            rw [if_neg (fun z => z.2 c)]
            exact q2
          · rw [if_neg (fun z => c ((le_sum q2 (by omega)).mp z))]
            obtain ⟨v, v1, v2⟩ := C_copy s.2.2.1 f
            have v3 := RepC_agree h hi v2
            obtain ⟨g', m1, m2⟩ := C_mend v3 hi (r := j) hj' l
            have hb := aBack_le a j
            have hnm := nl_mend hj' l
            rw [v1, Option.bind_some, show stA 4 s.2.2.2.2.2.2.1 0 (nI j) = some (upd s.2.2.2.2.2.2.1 0 (nI j)) from stA_nI (i := 0) _ (by decide) (by decide), Option.bind_some, m1, Option.bind_some]
            dsimp only
            obtain ⟨z, z1, z2, z3⟩ := C_try1 hm (n := n) m2 (mend_inv hi hj') (by rw [mend_G]; exact hG) (su := s.2.1) (tr := upd s.2.2.2.2.2.2.1 0 (nI j)) (be := s.2.2.2.2.2.2.2) (st1 := s.2.2.2.1) (st2 := s.2.2.2.2.1) (st3 := s.2.2.2.2.2.1) (g := g + aBack a j) (p := p ++ [j]) (x := foldN (fun r y => if aF a 1 r = 0 ∧ ¬ ((g + aStill a : Nat) : Int) ≤ aSum y then pds n k (aMend a r).2 (g + aBack a r) (p ++ [r]) y else y) x j) (by omega) (by omega) (RelT_snoc ht q3) q2
            rw [show (aMend a j).1 = aBack a j from rfl, nI_add, nI_1, z1, Option.bind_some]
            refine ⟨_, rfl, rfl, ?_, ?_⟩
            · show RelC m (if aF a 1 j = 0 ∧ ¬ ((g + aStill a : Nat) : Int) ≤ aSum (foldN (fun r y => if aF a 1 r = 0 ∧ ¬ ((g + aStill a : Nat) : Int) ≤ aSum y then pds n k (aMend a r).2 (g + aBack a r) (p ++ [r]) y else y) x j) then _ else _) _ _
              rw [if_pos ⟨l, c⟩]
              rw [show aNl (aMend a j).2 = k by omega] at z3
              exact z3
            · intro i hi'
              exact (z2 i (by omega)).trans ((pk_un (by omega)).trans (q3 i hi'))
        · rw [if_pos (show aF a 1 j = 1 by omega), if_neg one_n0, nI_1]
          refine ⟨_, rfl, rfl, ?_, q3⟩
          show RelC m (if aF a 1 j = 0 ∧ ¬ ((g + aStill a : Nat) : Int) ≤ aSum (foldN (fun r y => if aF a 1 r = 0 ∧ ¬ ((g + aStill a : Nat) : Int) ≤ aSum y then pds n k (aMend a r).2 (g + aBack a r) (p ++ [r]) y else y) x j) then _ else _) _ _
          rw [if_neg (fun z => l z.1)]
          exact q2
      · right
        have : j = n := by omega
        subst this
        unfold SX1_tryOrders_0_51
        rw [C_n h, Option.bind_some, q1, hG, if_pos (nI_le (Nat.le_refl _) (by omega))]
        exact ⟨_, rfl, q2, q3⟩) FU (0, su, st0, st1, st2, st3, tr, be) (FU_lt (by omega)) ⟨rfl, hx, fun _ _ => rfl⟩
    rw [e1, Option.bind_some]
    exact ⟨_, rfl, e3, e2⟩
theorem C_find (h : RepC a f) (hi : aInv a) (su : Int32) (st0 st1 st2 st3 tr be : Nat → Int32) : (4 < aNl a ∧ MX1_findBest su st0 st1 st2 st3 tr be f = some (-1000003, su, st0, st1, st2, st3, tr, be)) ∨ (aNl a ≤ 4 ∧ ∃ z, MX1_findBest su st0 st1 st2 st3 tr be f = some z ∧ z.1 = nI (aNl a) ∧ RelC (aNl a) (pds (aG a 0) (aNl a) a 0 [] none) z.2.1 z.2.2.2.2.2.2.2) := by
  unfold MX1_findBest
  have hn := hi.1
  have hnl := nl_le a
  rw [C_lost h hi, Option.bind_some]
  rcases Nat.lt_or_ge 4 (aNl a) with q | q
  · left
    rw [if_neg (show ¬ nI (aNl a) ≤ 4 from not_le_of (b := 4) (nI_lt q (by omega)))]
    exact ⟨q, rfl⟩
  · right
    refine ⟨q, ?_⟩
    rw [if_pos (show nI (aNl a) ≤ 4 from nI_le (b := 4) q (by omega))]
    obtain ⟨z, z1, z2, z3⟩ := C_try0 q h hi rfl (su := -1) (st0 := st0) (st1 := st1) (st2 := st2) (st3 := st3) (tr := tr) (be := be) (g := 0) (p := []) (x := none) (by omega) (by omega) ⟨rfl, fun i hi => absurd hi (Nat.not_lt_zero _)⟩ rfl
    rw [show (0 : Int32) = nI 0 from rfl, z1, Option.bind_some]
    exact ⟨_, rfl, rfl, z3⟩
end SEARCH
