/-! row, would and counts: both sides alike -/
def foldN {α : Type} (g : Nat → α → α) (x0 : α) : Nat → α
  | 0 => x0
  | k + 1 => g k (foldN g x0 k)
theorem loopN {α ρ : Type} {step : α × Int32 → Option ((α × Int32) ⊕ ρ)} (N : Nat) (hN : N < 4000) (g : Nat → α → α) (x0 : α) (q : α → ρ) (hs : ∀ k x, k < N → step (x, nI k) = some (.inl (g k x, nI (k + 1)))) (he : ∀ x, step (x, nI N) = some (.inr (q x))) : itr step FU (x0, 0) = some (q (foldN g x0 N)) :=
  itr_for (step := step) N (fun k => (foldN g x0 k, nI k)) (q (foldN g x0 N)) (fun k hk => hs k _ hk) (he _) FU (FU_lt hN)
theorem foldN_congr {α : Type} {g g' : Nat → α → α} (x0 : α) : ∀ N, (∀ k x, k < N → g k x = g' k x) → foldN g x0 N = foldN g' x0 N
  | 0, _ => rfl
  | n + 1, h => by
    show g n (foldN g x0 n) = g' n (foldN g' x0 n)
    rw [foldN_congr x0 n (fun k x hk => h k x (by omega)), h n _ (by omega)]
theorem sm_le {f : Nat → Nat} {b : Nat} (h : ∀ k, f k ≤ b) : ∀ n, sm f n ≤ b * n
  | 0 => Nat.le_refl 0
  | n + 1 => by
    show sm f n + f n ≤ b * (n + 1)
    have := sm_le h n
    have := h n
    rw [Nat.mul_add]
    omega
theorem b1_le (p : Bool) : b1 p ≤ 1 := by cases p <;> decide
theorem sm_b1_le (p : Nat → Bool) (n : Nat) : sm (fun k => b1 (p k)) n ≤ n := by
  have := sm_le (f := fun k => b1 (p k)) (b := 1) (fun k => b1_le _) n
  omega
theorem sm_not (p : Nat → Bool) : ∀ n, sm (fun k => b1 (p k)) n + sm (fun k => b1 (!p k)) n = n
  | 0 => rfl
  | n + 1 => by
    have := sm_not p n
    show (sm _ n + b1 (p n)) + (sm _ n + b1 (!p n)) = n + 1
    have : b1 (p n) + b1 (!p n) = 1 := by cases p n <;> rfl
    omega
theorem aBack_le (a : Abs) (r : Nat) : aBack a r ≤ 8 := sm_b1_le _ 8
theorem aWrongs_le (a : Abs) (r : Nat) : aWrongs a r ≤ 8 := sm_b1_le _ 8
def aUnk (a : Abs) (r : Nat) : Nat := sm (fun c => b1 (decide (aV a r c = 0))) 8
theorem aUnk_le (a : Abs) (r : Nat) : aUnk a r ≤ 8 := sm_b1_le _ 8
def aWr (a : Abs) (r : Nat) : Int32 := foldN (fun c x => x + aW a r c) 0 8
theorem nI_b1 (n : Nat) (p : Bool) : nI n + nI (b1 p) = nI (n + b1 p) := nI_add _ _
section SRV
variable {a : Abs} {f s : Nat → Int32}
theorem C_known (h : RepC a f) (hi : aInv a) {r c : Nat} (hr : r < aG a 0) (hc : c < 8) : MX4_isKnown f (nI r) (nI c) = some (if aV a r c = 0 then 0 else 1) := by
  have hV := inv_V hi hr hc
  unfold MX4_isKnown
  rw [C_val h hi hr hc, Option.bind_some]
  by_cases q : aV a r c = 0
  · rw [if_pos q, q, m1_of0, if_pos rfl]
  · rw [if_neg q, nI_m1 (by omega), if_neg (m1_ne _ (by omega))]
theorem C_unk (h : RepC a f) (hi : aInv a) {r : Nat} (hr : r < aG a 0) : MX4_unknownCells f (nI r) = some (nI (aUnk a r)) := by
  unfold MX4_unknownCells
  rw [show ((0 : Int32), (0 : Int32)) = (nI (sm (fun c => b1 (decide (aV a r c = 0))) 0), nI 0) from rfl, itr_for (step := SX4_unknownCells_4 f (nI r)) 8 (fun k => (nI (sm (fun c => b1 (decide (aV a r c = 0))) k), nI k)) (nI (aUnk a r)) (fun k hk => ?_) (by unfold SX4_unknownCells_4; dsimp only; rw [if_pos (by decide)]; rfl) FU (FU_lt (by decide))]
  · rfl
  · unfold SX4_unknownCells_4
    dsimp only
    rw [if_neg (show ¬ (8 : Int32) ≤ nI k from nI_ge (b := 8) hk (by decide)), C_known h hi hr hk, Option.bind_some, nI_1, Int32.add_zero, nI_1]
    show _ = some (Sum.inl (nI (sm _ k + b1 (decide (aV a r k = 0))), nI (k + 1)))
    by_cases z : aV a r k = 0
    · rw [if_pos z, if_pos rfl, decide_eq_true z]; rfl
    · rw [if_neg z, if_neg one_n0, decide_eq_false z]; rfl
theorem M_unk (h : RepN a s) (hw : RepW a s) (hi : aInv a) {r : Nat} (hr : r < aG a 0) : MX6_unknown s (nI r) = some (nI (if aF a 1 r = 1 then aUnk a r else 8)) := by
  have hn := hi.1.2
  unfold MX6_unknown
  by_cases hl : aF a 1 r = 1
  · rw [if_pos hl, show ((0 : Int32), (0 : Int32)) = (nI (sm (fun c => b1 (decide (aV a r c = 0))) 0), nI 0) from rfl, itr_for (step := SX6_unknown_4 s (nI r)) 8 (fun k => (nI (sm (fun c => b1 (decide (aV a r c = 0))) k), nI k)) (nI (aUnk a r)) (fun k hk => ?_) (by unfold SX6_unknown_4; dsimp only; rw [if_pos (by decide)]; rfl) FU (FU_lt (by decide))]
    · rfl
    · unfold SX6_unknown_4
      dsimp only
      have hV := inv_V hi hr hk
      rw [if_neg (show ¬ (8 : Int32) ≤ nI k from nI_ge (b := 8) hk (by decide)), M_cell hw hn hr hk, Option.bind_some, nI_1, Int32.add_zero, nI_1, if_pos hl]
      show _ = some (Sum.inl (nI (sm _ k + b1 (decide (aV a r k = 0))), nI (k + 1)))
      by_cases z : aV a r k = 0
      · rw [z, if_pos (show nI 0 = 0 from rfl), decide_eq_true (show 0 = 0 from rfl)]; rfl
      · rw [if_neg (nI_ne0 (by omega) (by omega)), decide_eq_false z]; rfl
  · rw [if_neg hl, show ((0 : Int32), (0 : Int32)) = (nI 0, nI 0) from rfl, itr_for (step := SX6_unknown_4 s (nI r)) 8 (fun k => (nI k, nI k)) (nI 8) (fun k hk => ?_) (by unfold SX6_unknown_4; dsimp only; rw [if_pos (by decide)]) FU (FU_lt (by decide))]
    · rfl
    · unfold SX6_unknown_4
      dsimp only
      rw [if_neg (show ¬ (8 : Int32) ≤ nI k from nI_ge (b := 8) hk (by decide)), M_cell hw hn hr hk, Option.bind_some, nI_1, if_neg hl, if_pos rfl]
theorem C_wrc (h : RepC a f) (hi : aInv a) {r : Nat} (hr : r < aG a 0) : MX4_wrongCells f (nI r) = some (aWr a r) := by
  unfold MX4_wrongCells
  rw [loopN (step := SX4_wrongCells_4 f (nI r)) 8 (by decide) (fun c x => x + aW a r c) 0 (fun x => x) (fun k x hk => ?_) (fun x => ?_)]
  · rfl
  · unfold SX4_wrongCells_4
    dsimp only
    rw [if_neg (show ¬ (8 : Int32) ≤ nI k from nI_ge (b := 8) hk (by decide)), C_wr h hi hr hk, Option.bind_some, nI_1]
  · unfold SX4_wrongCells_4
    dsimp only
    rw [if_pos (by decide)]
theorem M_wrc (hw : RepW a s) (hi : aInv a) {r : Nat} (hr : r < aG a 0) : MX6_wrongCells s (nI r) = some (aWr a r) := by
  have hn := hi.1.2
  unfold MX6_wrongCells
  rw [loopN (step := SX6_wrongCells_4 s (nI r)) 8 (by decide) (fun c x => x + aW a r c) 0 (fun x => x) (fun k x hk => ?_) (fun x => ?_)]
  · rfl
  · unfold SX6_wrongCells_4
    dsimp only
    rw [if_neg (show ¬ (8 : Int32) ≤ nI k from nI_ge (b := 8) hk (by decide)), M_wrg hw hn hr hk, Option.bind_some, nI_1]
  · unfold SX6_wrongCells_4
    dsimp only
    rw [if_pos (by decide)]
theorem C_d2 (h : RepC a f) (hi : aInv a) {r : Nat} (hr : r < aG a 0) : MX3_get f (37 + nI r) = some (aD a 2 r) := by
  have := hi.1.2
  rw [show (37 : Int32) = nI 37 from rfl, nI_add, getN f (by omega), (h.2.2.1 r hr).2.2.2.1]
theorem C_d3 (h : RepC a f) (hi : aInv a) {r : Nat} (hr : r < aG a 0) : MX3_get f (46 + nI r) = some (aD a 3 r) := by
  have := hi.1.2
  rw [show (46 : Int32) = nI 46 from rfl, nI_add, getN f (by omega), (h.2.2.1 r hr).2.2.2.2.1]
theorem M_d2 (h : RepN a s) (hi : aInv a) {r : Nat} (hr : r < aG a 0) : MX6_of s (nI r) 2 = some (aD a 2 r) := by
  have := hi.1.2
  rw [show (2 : Int32) = nI 2 from rfl, M_of s (by omega) (by omega), (h.2.2.1 r hr).2.2.1]
theorem M_d3 (h : RepN a s) (hi : aInv a) {r : Nat} (hr : r < aG a 0) : MX6_of s (nI r) 3 = some (aD a 3 r) := by
  have := hi.1.2
  rw [show (3 : Int32) = nI 3 from rfl, M_of s (by omega) (by omega), (h.2.2.1 r hr).2.2.2.1]
theorem M_lvx (h : RepN a s) (hi : aInv a) {r : Nat} (hr : r < aG a 0) : MX6_of s (nI r) 1 = some (nI (aF a 1 r)) := by
  have := hi.1.2
  rw [show (1 : Int32) = nI 1 from rfl, M_of s (by omega) (by omega), (h.2.2.1 r hr).2.1]
theorem inv_live (hi : aInv a) {r : Nat} (hr : r < aG a 0) : aF a 1 r = 0 ∨ aF a 1 r = 1 := by
  have := (hi.2.2.2.2.1 r hr).2.2.2.2.1
  omega
theorem sim_row (h : Two a f s) (x0 x1 : Int32) : ∃ v, MX4_ofRow f x0 x1 = some v ∧ MX6_row s x0 x1 = some v := by
  unfold MX4_ofRow MX6_row
  rcases two_row h x0 with ⟨r, hr, rfl, e1, e2⟩ | ⟨e1, e2⟩
  · obtain ⟨h1, h2, h3, h4, h5⟩ := h
    have hu : ((if aF a 1 r = 1 then (1 : Int32) else 0) = 0 → aF a 1 r ≠ 1) := by
      intro q w
      rw [if_pos w] at q
      exact one_n0 q
    rw [e1, Option.bind_some, if_neg one_n0, e2, Option.bind_some, if_neg one_n0, C_pl h1 h4 hr, M_pl h2 h4 hr, C_lvx h1 h4 hr, M_lvx h2 h4 hr, C_up h1 h4 hr, M_up h2 h4 hr, C_lo h1 h4 hr, M_lo h2 h4 hr, C_ec h1 h4 hr, M_ec h2 h4 hr, C_lives h1 h4 hr, C_unk h1 h4 hr, M_unk h2 h3 h4 hr, C_wrc h1 h4 hr, M_wrc h3 h4 hr, C_back h1 h4 hr, M_back h2 h3 h4 hr, C_d2 h1 h4 hr, C_d3 h1 h4 hr, M_d2 h2 h4 hr, M_d3 h2 h4 hr]
    have hz : ((some (if aF a 1 r = 1 then (1 : Int32) else 0)).bind fun v40 => if v40 = 0 then some 8 else (some (nI (aUnk a r))).bind fun v46 => some v46) = (some (nI (if aF a 1 r = 1 then aUnk a r else 8))).bind fun v40 => some v40 := by
      by_cases q : aF a 1 r = 1
      · rw [if_pos q, if_pos q]; rfl
      · rw [if_neg q, if_neg q]; rfl
    rw [hz]
    repeat' (first | exact ⟨_, rfl, rfl⟩ | refine alike_ite (fun _ => ?_) (fun _ => ?_))
  · rw [e1, Option.bind_some, if_pos rfl, e2, Option.bind_some, if_pos rfl]
    exact ⟨_, rfl, rfl⟩
/-- what an echo for a row bears: how many are heard, the greatest age -/
def aHeards (a : Abs) (r : Nat) (k : Nat) : Nat := sm (fun c => b1 (decide (0 < aHv a r c))) k
def ageI (a : Abs) (r c : Nat) : Int32 := match aHeard a r c with
  | some e => nI (aG a 1 - e.2.2)
  | none => -1000004
def aOldestI (a : Abs) (r : Nat) (k : Nat) : Int32 := foldN (fun c x => if x < ageI a r c then ageI a r c else x) (-1000004) k
theorem heards_split (a : Abs) (r : Nat) : ∀ k, aHeards a r k = sm (fun c => b1 (decide (0 < aV a r c) && decide (aHv a r c = aV a r c))) k + sm (fun c => b1 (decide (0 < aHv a r c) && !decide (aHv a r c = aV a r c))) k
  | 0 => rfl
  | k + 1 => by
    have := heards_split a r k
    show aHeards a r k + b1 (decide (0 < aHv a r k)) = (sm _ k + b1 (decide (0 < aV a r k) && decide (aHv a r k = aV a r k))) + (sm _ k + b1 (decide (0 < aHv a r k) && !decide (aHv a r k = aV a r k)))
    have : b1 (decide (0 < aHv a r k)) = b1 (decide (0 < aV a r k) && decide (aHv a r k = aV a r k)) + b1 (decide (0 < aHv a r k) && !decide (aHv a r k = aV a r k)) := by
      by_cases z : aHv a r k = aV a r k
      · rw [decide_eq_true z, Bool.and_true, Bool.not_true, Bool.and_false, z]; rfl
      · rw [decide_eq_false z, Bool.and_false, Bool.not_false, Bool.and_true]; exact (Nat.zero_add _).symm
    omega
theorem oldest_ge (a : Abs) (r : Nat) : ∀ k, (-1000004 : Int32).toInt ≤ (aOldestI a r k).toInt
  | 0 => Int.le_refl _
  | k + 1 => by
    have := oldest_ge a r k
    show _ ≤ (if aOldestI a r k < ageI a r k then ageI a r k else aOldestI a r k).toInt
    by_cases q : aOldestI a r k < ageI a r k
    · rw [if_pos q]
      rw [Int32.lt_iff_toInt_lt] at q
      omega
    · rw [if_neg q]; exact this
theorem sim_would (h : Two a f s) (x0 x1 : Int32) : ∃ v, MX4_ofMending f x0 x1 = some v ∧ MX6_would s x0 x1 = some v := by
  unfold MX4_ofMending MX6_would
  rcases two_row h x0 with ⟨r, hr, rfl, e1, e2⟩ | ⟨e1, e2⟩
  · obtain ⟨h1, h2, h3, h4, h5⟩ := h
    rw [e1, Option.bind_some, if_neg one_n0, e2, Option.bind_some, if_neg one_n0, show (0 : Int32) = nI 0 from rfl, show (3 : Int32) = nI 3 from rfl]
    rcases rng x1 (lo := 0) (hi := 3) (by omega) (by omega) with ⟨w, w1, w2, rfl⟩ | q2
    · rw [in_yes w1 w2 (by omega), Option.bind_some, if_neg (show ¬ (1 : Int32) = nI 0 by decide), if_neg (rng_no w1 w2 (by omega)).1, if_pos (nI_le w2 (by omega)), C_lives h1 h4 hr, Option.bind_some, M_lives h2 h4 hr, Option.bind_some]
      rcases inv_live h4 hr with hl | hl
      · have hl2 : ¬ aF a 1 r = 1 := by omega
        rw [if_neg hl2, if_pos (show (0 : Int32) = nI 0 from rfl), if_pos (show (0 : Int32) = nI 0 from rfl), C_back h1 h4 hr, Option.bind_some, M_back h2 h3 h4 hr, M_wrongs h2 h3 h4 hr hl]
        have hC : itr (SX4_ofMending_56 f (nI r)) FU (nI 0, -1000004, nI 0) = some (nI (aHeards a r 8), aOldestI a r 8) := by
          refine itr_for (step := SX4_ofMending_56 f (nI r)) 8 (fun k => (nI (aHeards a r k), aOldestI a r k, nI k)) _ (fun k hk => ?_) ?_ FU (FU_lt (by decide))
          · unfold SX4_ofMending_56
            dsimp only
            rw [if_neg (show ¬ (8 : Int32) ≤ nI k from nI_ge (b := 8) hk (by decide)), C_fresh h1 h4 hr hk, Option.bind_some, nI_1, nI_1]
            show _ = some (Sum.inl (nI (aHeards a r k + b1 (decide (0 < aHv a r k))), (if aOldestI a r k < ageI a r k then ageI a r k else aOldestI a r k), nI (k + 1)))
            have hg := oldest_ge a r k
            cases q : aHeard a r k with
            | none =>
              have e0 : ageI a r k = -1000004 := by unfold ageI; rw [q]
              rw [show frE none = -1 from rfl, if_pos rfl, hv_none q, e0, if_neg (by rw [Int32.lt_iff_toInt_lt]; omega)]
              rfl
            | some e =>
              have ho := heard_ok h4 q
              have e0 : ageI a r k = nI (aG a 1 - e.2.2) := by unfold ageI; rw [q]
              rw [show frE (some e) = pkE e from rfl, if_neg (m1_ne_pk ho.1), C_age h1 ho.1 ho.2.1, Option.bind_some, hv_some q, e0, decide_eq_true (show 0 < e.2.1 + 1 by omega)]
              rfl
          · unfold SX4_ofMending_56
            dsimp only
            rw [if_pos (by decide)]
        have hU : MX6_unheard s (nI r) = some (nI (8 - aHeards a r 8)) := by
          unfold MX6_unheard
          have hu := sm_not (fun c => decide (0 < aHv a r c)) 8
          rw [show ((0 : Int32), (0 : Int32)) = (nI (sm (fun c => b1 (!decide (0 < aHv a r c))) 0), nI 0) from rfl, itr_for (step := SX6_unheard_4 s (nI r)) 8 (fun k => (nI (sm (fun c => b1 (!decide (0 < aHv a r c))) k), nI k)) (nI (sm (fun c => b1 (!decide (0 < aHv a r c))) 8)) (fun k hk => ?_) (by unfold SX6_unheard_4; dsimp only; rw [if_pos (by decide)]) FU (FU_lt (by decide))]
          · rw [Option.bind_some]
            congr 1
            unfold aHeards
            congr 1
            omega
          · unfold SX6_unheard_4
            dsimp only
            have hH := hv_le h4 r k
            rw [if_neg (show ¬ (8 : Int32) ≤ nI k from nI_ge (b := 8) hk (by decide)), M_heard h2 h4 hr hk, Option.bind_some, nI_1, nI_1, Int32.add_zero]
            show _ = some (Sum.inl (nI (sm _ k + b1 (!decide (0 < aHv a r k))), nI (k + 1)))
            by_cases z : aHv a r k = 0
            · rw [if_pos (by rw [z]; rfl), z]; rfl
            · rw [if_neg (nI_ne0 (by omega) (by omega)), decide_eq_true (show 0 < aHv a r k by omega)]; rfl
        have hO : MX6_oldest s (nI r) = some (aOldestI a r 8) := by
          unfold MX6_oldest
          rw [loopN (step := SX6_oldest_5 s (nI r)) 8 (by decide) (fun c x => if x < ageI a r c then ageI a r c else x) (-1000004) (fun x => x) (fun k x hk => ?_) (fun x => ?_)]
          · rfl
          · unfold SX6_oldest_5
            dsimp only
            rw [if_neg (show ¬ (8 : Int32) ≤ nI k from nI_ge (b := 8) hk (by decide)), M_heardAge h2 h4 hr hk, Option.bind_some, nI_1, Option.bind_some]
            show (if ageI a r k ≤ x then _ else some (Sum.inl (ageI a r k, nI (k + 1)))) = _
            by_cases z : ageI a r k ≤ x
            · rw [if_pos z, if_neg (by rw [Int32.lt_iff_toInt_lt]; rw [Int32.le_iff_toInt_le] at z; omega)]
            · rw [if_neg z, if_pos (by rw [Int32.lt_iff_toInt_lt]; rw [Int32.le_iff_toInt_le] at z; omega)]
          · unfold SX6_oldest_5
            dsimp only
            rw [if_pos (by decide)]
        have hsp : aHeards a r 8 = aBack a r + aWrongs a r := heards_split a r 8
        have hle := aBack_le a r
        have hl8 : aHeards a r 8 ≤ 8 := sm_b1_le _ 8
        rw [hC, hU, hO, Option.bind_some]
        dsimp only
        rw [pk_sub (show aBack a r ≤ aHeards a r 8 by omega), show (8 : Int32) = nI 8 from rfl, pk_sub hl8, show aHeards a r 8 - aBack a r = aWrongs a r by omega]
        repeat' (first | exact ⟨_, rfl, rfl⟩ | refine alike_ite (fun _ => ?_) (fun _ => ?_))
      · rw [if_pos hl, if_neg (show ¬ (1 : Int32) = nI 0 by decide), if_neg (show ¬ (1 : Int32) = nI 0 by decide)]
        exact ⟨_, rfl, rfl⟩
    · rw [in_no q2, Option.bind_some, if_pos (show (0 : Int32) = nI 0 from rfl)]
      rcases q2 with q2 | q2
      · rw [if_pos q2]
        exact ⟨_, rfl, rfl⟩
      · by_cases q3 : x1 < nI 0
        · rw [if_pos q3]
          exact ⟨_, rfl, rfl⟩
        · rw [if_neg q3, if_neg (by
            intro w
            rw [Int32.le_iff_toInt_le] at w
            rw [Int32.lt_iff_toInt_lt] at q2
            omega)]
          exact ⟨_, rfl, rfl⟩
  · rw [e1, Option.bind_some, if_pos rfl, e2, Option.bind_some, if_pos rfl]
    exact ⟨_, rfl, rfl⟩
end SRV
