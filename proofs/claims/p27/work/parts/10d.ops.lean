/-! the counts that agree, and each change with plain arguments -/
def sL (a : Abs) : Int32 := foldN (fun r x => x + aD a 2 r) 0 (aG a 0)
def aCnt (N : Nat) (a : Abs) : Prop := ∃ L M : Nat, aC a 5 = nI L ∧ aC a 6 = nI M ∧ M + aNl a = L ∧ L ≤ N ∧ sL a = aC a 5
def GoodA (N : Nat) (a : Abs) : Prop := aInv a ∧ aWz a ∧ aCnt N a
theorem foldN_add1 {g g' : Nat → Int32} {r : Nat} (h1 : ∀ k, ¬ k = r → g' k = g k) (h2 : g' r = g r + 1) : ∀ n, r < n → foldN (fun k x => x + g' k) 0 n = foldN (fun k x => x + g k) 0 n + 1
  | 0, h => absurd h (Nat.not_lt_zero _)
  | n + 1, h => by
    show foldN (fun k x => x + g' k) 0 n + g' n = (foldN (fun k x => x + g k) 0 n + g n) + 1
    by_cases q : n = r
    · subst q
      rw [foldN_congr (g := fun k x => x + g' k) (g' := fun k x => x + g k) 0 n (fun k x hk => by rw [h1 k (by omega)]), h2, Int32.add_assoc]
    · rw [foldN_add1 h1 h2 n (by omega), h1 n q, Int32.add_assoc, Int32.add_assoc, Int32.add_comm 1 (g n)]
section OPS
variable {a : Abs} {f : Nat → Int32} {N : Nat}
theorem cnt_same {a' : Abs} (h : aCnt N a) (e0 : aG a' 0 = aG a 0) (e1 : ∀ q, aF a' 1 q = aF a 1 q) (e2 : ∀ q, aD a' 2 q = aD a 2 q) (e5 : aC a' 5 = aC a 5) (e6 : aC a' 6 = aC a 6) : aCnt N a' := by
  obtain ⟨L, M, h1, h2, h3, h4, h5⟩ := h
  refine ⟨L, M, by rw [e5]; exact h1, by rw [e6]; exact h2, ?_, h4, ?_⟩
  · unfold aNl
    rw [e0, sm_congr (f := fun r => b1 (decide (aF a' 1 r = 0))) (g := fun r => b1 (decide (aF a 1 r = 0))) _ (fun k _ => by rw [e1 k])]
    exact h3
  · unfold sL
    rw [e0, foldN_congr (g := fun r x => x + aD a' 2 r) (g' := fun r x => x + aD a 2 r) 0 _ (fun k x _ => by rw [e2 k]), e5]
    exact h5
theorem cnt_mono {M : Nat} (h : aCnt N a) (hN : N ≤ M) : aCnt M a := by
  obtain ⟨L, K, h1, h2, h3, h4, h5⟩ := h
  exact ⟨L, K, h1, h2, h3, by omega, h5⟩
theorem GoodA.mono {M : Nat} (h : GoodA N a) (hN : N ≤ M) : GoodA M a := ⟨h.1, h.2.1, cnt_mono h.2.2 hN⟩
theorem gd_write (h : GoodA N a) {r c v : Nat} (hr : r < aG a 0) (hc : c < 8) (hv : v ≤ 999) : GoodA N (aWrite a r c v).2 :=
  ⟨write_inv h.1 hr hc hv, write_wz h.2.1 r c v, cnt_same h.2.2 (by rw [write_G]) (fun q => by rw [write_F]) (fun q => write_D a r c v q) (write_Ci a r c v (by decide) (by decide)) (write_Ci a r c v (by decide) (by decide))⟩
theorem gd_lose (h : GoodA N a) {r : Nat} (hr : r < aG a 0) (hl : aF a 1 r = 1) : GoodA (N + 1) (aLose a r).2 := by
  obtain ⟨hi, hz, L, M, h1, h2, h3, h4, h5⟩ := h
  refine ⟨lose_inv hi r, lose_wz hz r, L + 1, M, ?_, ?_, ?_, by omega, ?_⟩
  · rw [lose_C5, h1, nI_1]
  · rw [lose_Ci a r (by decide), h2]
  · have : sm (fun q => b1 (decide (aF a 1 q = 0))) (aG a 0) + 1 = sm (fun q => b1 (decide (aF (aLose a r).2 1 q = 0))) (aG a 0) :=
      sm_eqone (r := r) (x := 1) (aG a 0) hr (fun k _ hk => by rw [lose_F1, if_neg hk]) (by rw [lose_F1, if_pos rfl, hl]; rfl)
    have e : aNl (aLose a r).2 = aNl a + 1 := this.symm
    omega
  · have : foldN (fun k x => x + aD (aLose a r).2 2 k) 0 (aG a 0) = foldN (fun k x => x + aD a 2 k) 0 (aG a 0) + 1 :=
      foldN_add1 (r := r) (fun k hk => by rw [lose_D, if_neg hk]) (by rw [lose_D, if_pos rfl]) _ hr
    rw [lose_C5, ← h5]
    exact this
theorem gd_mend (h : GoodA N a) {r : Nat} (hr : r < aG a 0) (hl : aF a 1 r = 0) : GoodA N (aMend a r).2 := by
  obtain ⟨hi, hz, L, M, h1, h2, h3, h4, h5⟩ := h
  have hm := nl_mend (a := a) hr hl
  refine ⟨mend_inv hi hr, mend_wz hz r, L, M + 1, ?_, ?_, by omega, h4, ?_⟩
  · rw [mend_C a r (by decide) (by decide) (by decide) (by decide), h1]
  · rw [mend_C6, h2, nI_1]
  · rw [mend_C a r (by decide) (by decide) (by decide) (by decide), ← h5]
    unfold sL
    rw [mend_G]
    exact foldN_congr (g := fun q x => x + aD (aMend a r).2 2 q) (g' := fun q x => x + aD a 2 q) 0 _ (fun k x _ => by rw [mend_D])
theorem gd_lay (h : GoodA N a) {r : Nat} (hr : r < aG a 0) : GoodA N (aLayRow a r).2 :=
  ⟨layR_inv h.1 hr, Wz_layR h.2.1 r, cnt_same h.2.2 (by rw [layR_G]) (fun q => by rw [layR_F]) (fun q => layR_D a r q) (layR_C a r (by decide)) (layR_C a r (by decide))⟩
theorem gd_swap (h : GoodA N a) {x y : Nat} (hx : x < aG a 0) (hy : y < aG a 0) (hxy : ¬ x = y) : GoodA N (aSwap a x y).2 :=
  ⟨swap_inv h.1 hx hy hxy, swap_wz h.2.1 x y, cnt_same h.2.2 rfl (fun q => swap_1 a x y q) (fun q => rfl) rfl rfl⟩
theorem gd_days (h : GoodA N a) {m : Nat} (hm : aG a 1 + m ≤ 9999) : GoodA N (aDays a m).2 :=
  ⟨days_inv h.1 hm, h.2.1, cnt_same h.2.2 (aG_r _ _ (by decide)) (fun q => rfl) (fun q => rfl) rfl rfl⟩
theorem gd_set (h : GoodA N a) {w x : Nat} (hw : w ≤ 1) (h1 : 1 ≤ x) (h2 : x ≤ if w = 0 then 16 else 99) : GoodA N (aSet a w x).2 :=
  ⟨set_inv h.1 hw h1 h2, set_wz h.2.1, cnt_same h.2.2 (aG_r _ _ (show ¬ 0 = 2 + w by omega)) (fun q => rfl) (fun q => rfl) rfl rfl⟩
theorem rows_C (a : Abs) {i : Nat} (h : ¬ i = 9) : ∀ k, aC (aLayRows a k) i = aC a i
  | 0 => rfl
  | k + 1 => by
    show aC (aLayRow (aLayRows a k) k).2 i = _
    rw [layR_C _ _ h, rows_C a h k]
theorem rows_D (a : Abs) (q : Nat) : ∀ k, aD (aLayRows a k) 2 q = aD a 2 q
  | 0 => rfl
  | k + 1 => by
    show aD (aLayRow (aLayRows a k) k).2 2 q = _
    rw [layR_D, rows_D a q k]
theorem begin_of (hd : aG a 1 ≤ 9999) (h2 : 1 ≤ aG a 2 ∧ aG a 2 ≤ 16) (h3 : 1 ≤ aG a 3 ∧ aG a 3 ≤ 99) {n : Nat} (hn : 3 ≤ n ∧ n ≤ 9) : aG (aBegin a n).2 0 = n ∧ (∀ q, aF (aBegin a n).2 1 q = 1) ∧ (∀ q, aD (aBegin a n).2 2 q = 0) ∧ (∀ i, ¬ i = 9 → aC (aBegin a n).2 i = 0) ∧ aC (aBegin a n).2 9 = 0 ∧ (∀ r c, aV (aBegin a n).2 r c = 1) := by
  have hr := rows_inv (fresh_inv a hd h2 h3 hn) n (by rw [fr_0]; exact Nat.le_refl _)
  have eG : aG (aBegin a n).2 0 = n := by
    show aG (aLayRows (aFresh a n) n) 0 = n
    rw [hr.2.1, fr_0]
  refine ⟨eG, fun q => ?_, fun q => ?_, fun i hi => ?_, up1_s (aC (aLayRows (aFresh a n) n)) 9 0, fun r c => ?_⟩
  · show aF (aLayRows (aFresh a n) n) 1 q = 1
    rw [hr.2.2.1]
    rfl
  · show (if 2 = 3 then 0 else aD (aLayRows (aFresh a n) n) 2 q) = 0
    rw [if_neg (by decide), rows_D]
    rfl
  · show up1 (aC (aLayRows (aFresh a n) n)) 9 0 i = 0
    rw [up1_n _ _ hi, rows_C _ hi]
    rfl
  · show aV (aLayRows (aFresh a n) n) r c = 1
    rw [hr.2.2.2.1]
    rfl
theorem foldN_z {g : Nat → Int32} (h : ∀ k, g k = 0) : ∀ n, foldN (fun k x => x + g k) 0 n = 0
  | 0 => rfl
  | n + 1 => by
    show foldN (fun k x => x + g k) 0 n + g n = 0
    rw [foldN_z h n, h n, Int32.add_zero]
theorem nl_none {a : Abs} (h : ∀ q, aF a 1 q = 1) : aNl a = 0 := (sm_zero _).mpr (fun k _ => by rw [h k]; rfl)
theorem cnt_begin (hd : aG a 1 ≤ 9999) (h2 : 1 ≤ aG a 2 ∧ aG a 2 ≤ 16) (h3 : 1 ≤ aG a 3 ∧ aG a 3 ≤ 99) {n : Nat} (hn : 3 ≤ n ∧ n ≤ 9) : aCnt 0 (aBegin a n).2 := by
  obtain ⟨b1, b2, b3, b4, b5, b6⟩ := begin_of hd h2 h3 hn
  refine ⟨0, 0, b4 5 (by decide), b4 6 (by decide), by rw [nl_none b2], Nat.le_refl _, ?_⟩
  rw [b4 5 (by decide)]
  exact foldN_z b3 _
theorem gd_begin (h : GoodA N a) {n : Nat} (hn : 3 ≤ n ∧ n ≤ 9) : GoodA N (aBegin a n).2 :=
  ⟨begin_inv h.1 hn.1 hn.2, begin_wz h.1 hn.1 hn.2, cnt_mono (cnt_begin h.1.2.1 h.1.2.2.1 h.1.2.2.2.1 hn) (Nat.zero_le _)⟩
theorem hasXr (h : RepC a f) (hi : aInv a) {r : Nat} (hr : ¬ r < aG a 0) (h31 : r < 2 ^ 31) : MX3_hasRow f (nI r) = some 0 := by
  have hn := hi.1
  rcases C_hasRow h hi (nI r) with ⟨e, _⟩ | ⟨q, h1, h2, _⟩
  · exact e
  · have := (nI_eq h31 (by omega)).mp h2
    omega
theorem cellX {c : Nat} (hc : ¬ c < 8) (h31 : c < 2 ^ 31) : MX3_isCell (nI c) = some 0 := by
  rcases C_isCell (nI c) with ⟨e, _⟩ | ⟨q, h1, h2, _⟩
  · exact e
  · have := (nI_eq h31 (by omega)).mp h2
    omega
def oWrite (a : Abs) (r c v : Nat) : Int32 × Abs := if r < aG a 0 ∧ c < 8 ∧ v ≤ 999 then (if aF a 1 r = 1 then (nI (aWrite a r c v).1, (aWrite a r c v).2) else (-1000002, a)) else (-1000001, a)
def oLose (a : Abs) (r : Nat) : Int32 × Abs := if r < aG a 0 then (if aF a 1 r = 1 then (nI (aLose a r).1, (aLose a r).2) else (-1000002, a)) else (-1000001, a)
def oMend (a : Abs) (r : Nat) : Int32 × Abs := if r < aG a 0 then (if aF a 1 r = 1 then (-1000002, a) else (nI (aMend a r).1, (aMend a r).2)) else (-1000001, a)
def oLay (a : Abs) (r : Nat) : Int32 × Abs := if r < aG a 0 then (if aF a 1 r = 1 then (nI (aLayRow a r).1, (aLayRow a r).2) else (-1000002, a)) else (-1000001, a)
def oSwap (a : Abs) (x y : Nat) : Int32 × Abs := if x < aG a 0 ∧ y < aG a 0 ∧ ¬ x = y then (if aF a 1 x = 1 ∧ aF a 1 y = 1 then (nI (aSwap a x y).1, (aSwap a x y).2) else (-1000002, a)) else (-1000001, a)
def oDays (a : Abs) (m : Nat) : Int32 × Abs := if 1 ≤ m ∧ m ≤ 99 then (if aG a 1 + m ≤ 9999 then (nI (aDays a m).1, (aDays a m).2) else (-1000003, a)) else (-1000001, a)
def oSet (a : Abs) (w x : Nat) : Int32 × Abs := if w ≤ 1 ∧ 1 ≤ x ∧ x ≤ (if w = 0 then 16 else 99) then (nI (aSet a w x).1, (aSet a w x).2) else (-1000001, a)
def oBegin (a : Abs) (n : Nat) : Int32 × Abs := if 3 ≤ n ∧ n ≤ 9 then (nI (aBegin a n).1, (aBegin a n).2) else (-1000001, a)
/-- what an answer may be: an error, and nothing is changed; or none -/
def okO (N : Nat) (a : Abs) (o : Int32 × Abs) : Prop := ((o.1 = -1000001 ∨ o.1 = -1000002 ∨ o.1 = -1000003) ∧ o.2 = a) ∨ ((∃ k, k ≤ 9999 ∧ o.1 = nI k) ∧ GoodA (N + 1) o.2)
theorem ok1 : okO N a (-1000001, a) := Or.inl ⟨Or.inl rfl, rfl⟩
theorem ok2 : okO N a (-1000002, a) := Or.inl ⟨Or.inr (Or.inl rfl), rfl⟩
theorem ok3 : okO N a (-1000003, a) := Or.inl ⟨Or.inr (Or.inr rfl), rfl⟩
theorem ok_write (h : GoodA N a) (r c v : Nat) : okO N a (oWrite a r c v) := by
  unfold oWrite
  split
  · next q =>
    split
    · exact Or.inr ⟨⟨_, Nat.le_trans (lay1_le _ _ _ _) (by decide), rfl⟩, (gd_write h q.1 q.2.1 q.2.2).mono (Nat.le_succ N)⟩
    · exact ok2
  · exact ok1
theorem ok_lose (h : GoodA N a) (r : Nat) : okO N a (oLose a r) := by
  unfold oLose
  split
  · next q =>
    split
    · next w => exact Or.inr ⟨⟨_, Nat.le_trans (aBack_le a r) (by decide), rfl⟩, gd_lose h q w⟩
    · exact ok2
  · exact ok1
theorem ok_mend (h : GoodA N a) (r : Nat) : okO N a (oMend a r) := by
  unfold oMend
  split
  · next q =>
    split
    · exact ok2
    · next w =>
      have := inv_live h.1 q
      exact Or.inr ⟨⟨_, Nat.le_trans (aBack_le a r) (by decide), rfl⟩, (gd_mend h q (by omega)).mono (Nat.le_succ N)⟩
  · exact ok1
theorem ok_lay (h : GoodA N a) (r : Nat) : okO N a (oLay a r) := by
  unfold oLay
  split
  · next q =>
    split
    · exact Or.inr ⟨⟨_, Nat.le_trans (layR_le a r) (by decide), rfl⟩, (gd_lay h q).mono (Nat.le_succ N)⟩
    · exact ok2
  · exact ok1
theorem ok_swap (h : GoodA N a) (x y : Nat) : okO N a (oSwap a x y) := by
  unfold oSwap
  split
  · next q =>
    split
    · exact Or.inr ⟨⟨_, Nat.le_trans (far_le h.1 q.1 q.2.1) (by decide), rfl⟩, (gd_swap h q.1 q.2.1 q.2.2).mono (Nat.le_succ N)⟩
    · exact ok2
  · exact ok1
theorem ok_days (h : GoodA N a) (m : Nat) : okO N a (oDays a m) := by
  unfold oDays
  split
  · split
    · next w => exact Or.inr ⟨⟨_, w, rfl⟩, (gd_days h w).mono (Nat.le_succ N)⟩
    · exact ok3
  · exact ok1
theorem set_le (hi : aInv a) {w x : Nat} (hw : w ≤ 1) : (aSet a w x).1 ≤ 99 := by
  show aG a (2 + w) ≤ 99
  have i1 := hi.2.2.1
  have i2 := hi.2.2.2.1
  rcases (show w = 0 ∨ w = 1 by omega) with rfl | rfl
  · exact Nat.le_trans i1.2 (by decide)
  · exact i2.2
theorem ok_set (h : GoodA N a) (w x : Nat) : okO N a (oSet a w x) := by
  unfold oSet
  by_cases q : w ≤ 1 ∧ 1 ≤ x ∧ x ≤ (if w = 0 then 16 else 99)
  · rw [if_pos q]
    exact Or.inr ⟨⟨_, Nat.le_trans (set_le h.1 q.1) (by decide), rfl⟩, (gd_set h q.1 q.2.1 q.2.2).mono (Nat.le_succ N)⟩
  · rw [if_neg q]
    exact ok1
theorem begin_le (h : GoodA N a) {m : Nat} (hm : 3 ≤ m ∧ m ≤ 9) : (aBegin a m).1 ≤ 144 := by
  have hI := begin_inv h.1 hm.1 hm.2
  have e : (aBegin a m).1 = sm (fun r => (aM (aBegin a m).2 r).length) (aG (aBegin a m).2 0) := rfl
  have e0 := (begin_of h.1.2.1 h.1.2.2.1 h.1.2.2.2.1 hm).1
  have : (aBegin a m).1 ≤ 16 * m := by
    rw [e, e0]
    exact sm_ub m (fun k hk => inv_len hI (by rw [e0]; exact hk))
  omega
theorem ok_begin (h : GoodA N a) (m : Nat) : okO N a (oBegin a m) := by
  unfold oBegin
  split
  · next q => exact Or.inr ⟨⟨_, Nat.le_trans (begin_le h q) (by decide), rfl⟩, (gd_begin h q).mono (Nat.le_succ N)⟩
  · exact ok1
theorem go_write (h : RepC a f) (hi : aInv a) {r c v : Nat} (hr : r < 2 ^ 31) (hc : c < 2 ^ 31) (hv : v < 2 ^ 31) : ∃ g, MX3_writeCell f (nI r) (nI c) (nI v) = some ((oWrite a r c v).1, g) ∧ RepC (oWrite a r c v).2 g := by
  unfold oWrite
  by_cases q1 : r < aG a 0
  · by_cases q2 : c < 8
    · by_cases q3 : v ≤ 999
      · rw [if_pos ⟨q1, q2, q3⟩]
        by_cases w : aF a 1 r = 1
        · rw [if_pos w]
          exact C_write h hi q1 q2 q3 w
        · rw [if_neg w]
          refine ⟨f, ?_, h⟩
          unfold MX3_writeCell
          rw [hasR h hi q1, Option.bind_some, if_neg one_n0, hasC q2, Option.bind_some, if_neg one_n0, if_neg (nI_pos hv), if_pos (show nI v ≤ 999 from nI_le (b := 999) q3 (by decide)), C_livesb h hi q1, Option.bind_some, lv_no w, if_pos rfl]
      · rw [if_neg (fun z => q3 z.2.2)]
        refine ⟨f, ?_, h⟩
        unfold MX3_writeCell
        rw [hasR h hi q1, Option.bind_some, if_neg one_n0, hasC q2, Option.bind_some, if_neg one_n0, if_neg (nI_pos hv), if_neg (show ¬ nI v ≤ 999 from nI_ge (a := 999) (by omega) hv)]
    · rw [if_neg (fun z => q2 z.2.1)]
      refine ⟨f, ?_, h⟩
      unfold MX3_writeCell
      rw [hasR h hi q1, Option.bind_some, if_neg one_n0, cellX q2 hc, Option.bind_some, if_pos rfl]
  · rw [if_neg (fun z => q1 z.1)]
    refine ⟨f, ?_, h⟩
    unfold MX3_writeCell
    rw [hasXr h hi q1 hr, Option.bind_some, if_pos rfl]
theorem go_lose (h : RepC a f) (hi : aInv a) {r : Nat} (hr : r < 2 ^ 31) : ∃ g, MX3_loseRow f (nI r) = some ((oLose a r).1, g) ∧ RepC (oLose a r).2 g := by
  unfold oLose
  by_cases q1 : r < aG a 0
  · rw [if_pos q1]
    by_cases w : aF a 1 r = 1
    · rw [if_pos w]
      exact C_lose h hi q1 w
    · rw [if_neg w]
      refine ⟨f, ?_, h⟩
      unfold MX3_loseRow
      rw [hasR h hi q1, Option.bind_some, if_neg one_n0, C_livesb h hi q1, Option.bind_some, lv_no w, if_pos rfl]
  · rw [if_neg q1]
    refine ⟨f, ?_, h⟩
    unfold MX3_loseRow
    rw [hasXr h hi q1 hr, Option.bind_some, if_pos rfl]
theorem go_mend (h : RepC a f) (hi : aInv a) {r : Nat} (hr : r < 2 ^ 31) : ∃ g, MX3_mendRow f (nI r) = some ((oMend a r).1, g) ∧ RepC (oMend a r).2 g := by
  unfold oMend
  by_cases q1 : r < aG a 0
  · rw [if_pos q1]
    by_cases w : aF a 1 r = 1
    · rw [if_pos w]
      refine ⟨f, ?_, h⟩
      unfold MX3_mendRow
      rw [hasR h hi q1, Option.bind_some, if_neg one_n0, C_livesb h hi q1, Option.bind_some, if_pos w, if_neg one_n0]
    · rw [if_neg w]
      have := inv_live hi q1
      exact C_mend h hi q1 (by omega)
  · rw [if_neg q1]
    refine ⟨f, ?_, h⟩
    unfold MX3_mendRow
    rw [hasXr h hi q1 hr, Option.bind_some, if_pos rfl]
theorem go_lay (h : RepC a f) (hi : aInv a) {r : Nat} (hr : r < 2 ^ 31) : ∃ g, MX3_layAnew f (nI r) = some ((oLay a r).1, g) ∧ RepC (oLay a r).2 g := by
  unfold oLay
  by_cases q1 : r < aG a 0
  · rw [if_pos q1]
    by_cases w : aF a 1 r = 1
    · rw [if_pos w]
      exact C_layAnew h hi q1 w
    · rw [if_neg w]
      refine ⟨f, ?_, h⟩
      unfold MX3_layAnew
      rw [hasR h hi q1, Option.bind_some, if_neg one_n0, C_livesb h hi q1, Option.bind_some, lv_no w, if_pos rfl]
  · rw [if_neg q1]
    refine ⟨f, ?_, h⟩
    unfold MX3_layAnew
    rw [hasXr h hi q1 hr, Option.bind_some, if_pos rfl]
theorem go_swap (h : RepC a f) (hi : aInv a) {x y : Nat} (hx : x < 2 ^ 31) (hy : y < 2 ^ 31) : ∃ g, MX3_swapRows f (nI x) (nI y) = some ((oSwap a x y).1, g) ∧ RepC (oSwap a x y).2 g := by
  unfold oSwap
  by_cases q1 : x < aG a 0
  · by_cases q2 : y < aG a 0
    · by_cases q3 : x = y
      · rw [if_neg (fun z => z.2.2 q3)]
        refine ⟨f, ?_, h⟩
        unfold MX3_swapRows
        rw [hasR h hi q1, Option.bind_some, if_neg one_n0, hasR h hi q2, Option.bind_some, if_neg one_n0, if_pos (by rw [q3])]
      · have q4 : ¬ nI x = nI y := fun z => q3 ((nI_eq hx hy).mp z)
        rw [if_pos ⟨q1, q2, q3⟩]
        by_cases w : aF a 1 x = 1
        · by_cases w2 : aF a 1 y = 1
          · rw [if_pos ⟨w, w2⟩]
            exact C_swap h hi q1 q2 q3 w w2
          · rw [if_neg (fun z => w2 z.2)]
            refine ⟨f, ?_, h⟩
            unfold MX3_swapRows
            rw [hasR h hi q1, Option.bind_some, if_neg one_n0, hasR h hi q2, Option.bind_some, if_neg one_n0, if_neg q4, C_livesb h hi q1, Option.bind_some, if_pos w, if_neg one_n0, C_livesb h hi q2, Option.bind_some, lv_no w2, if_pos rfl]
        · rw [if_neg (fun z => w z.1)]
          refine ⟨f, ?_, h⟩
          unfold MX3_swapRows
          rw [hasR h hi q1, Option.bind_some, if_neg one_n0, hasR h hi q2, Option.bind_some, if_neg one_n0, if_neg q4, C_livesb h hi q1, Option.bind_some, lv_no w, if_pos rfl]
    · rw [if_neg (fun z => q2 z.2.1)]
      refine ⟨f, ?_, h⟩
      unfold MX3_swapRows
      rw [hasR h hi q1, Option.bind_some, if_neg one_n0, hasXr h hi q2 hy, Option.bind_some, if_pos rfl]
  · rw [if_neg (fun z => q1 z.1)]
    refine ⟨f, ?_, h⟩
    unfold MX3_swapRows
    rw [hasXr h hi q1 hx, Option.bind_some, if_pos rfl]
theorem go_days (h : RepC a f) (hi : aInv a) {m : Nat} (hm : m < 2 ^ 31) : ∃ g, MX3_endDays f (nI m) = some ((oDays a m).1, g) ∧ RepC (oDays a m).2 g := by
  have hd := hi.2.1
  unfold oDays
  by_cases q1 : 1 ≤ m
  · by_cases q2 : m ≤ 99
    · rw [if_pos ⟨q1, q2⟩]
      by_cases w : aG a 1 + m ≤ 9999
      · rw [if_pos w]
        exact C_days h hi q1 q2 w
      · rw [if_neg w]
        refine ⟨f, ?_, h⟩
        unfold MX3_endDays
        rw [if_neg (show ¬ nI m < 1 from nI_nlt (b := 1) q1 hm), if_pos (show nI m ≤ 99 from nI_le (b := 99) q2 (by omega)), C_day h, Option.bind_some, nI_add, if_neg (show ¬ nI (aG a 1 + m) ≤ 9999 from nI_ge (a := 9999) (by omega) (by omega))]
    · rw [if_neg (fun z => q2 z.2)]
      refine ⟨f, ?_, h⟩
      unfold MX3_endDays
      rw [if_neg (show ¬ nI m < 1 from nI_nlt (b := 1) q1 hm), if_neg (show ¬ nI m ≤ 99 from nI_ge (a := 99) (by omega) hm)]
  · rw [if_neg (fun z => q1 z.1)]
    refine ⟨f, ?_, h⟩
    unfold MX3_endDays
    rw [if_pos (show nI m < 1 from nI_lt (b := 1) (by omega) (by decide))]
theorem go_set (h : RepC a f) (hi : aInv a) {w x : Nat} (hw : w < 2 ^ 31) (hx : x < 2 ^ 31) : ∃ g, MX3_changeSetting f (nI w) (nI x) = some ((oSet a w x).1, g) ∧ RepC (oSet a w x).2 g := by
  unfold oSet
  by_cases q1 : w ≤ 1
  · have hj : (if nI w = 0 then some (16 : Int32) else some 99) = some (nI (if w = 0 then 16 else 99)) := by
      by_cases y : w = 0
      · subst y; rfl
      · rw [if_neg (nI_ne0 (by omega) (by omega)), if_neg y]; rfl
    by_cases q2 : 1 ≤ x
    · by_cases q3 : x ≤ (if w = 0 then 16 else 99)
      · rw [if_pos ⟨q1, q2, q3⟩]
        exact C_set h hi q1 q2 q3
      · rw [if_neg (fun z => q3 z.2.2)]
        refine ⟨f, ?_, h⟩
        unfold MX3_changeSetting
        rw [if_neg (nI_pos hw), if_neg (show ¬ 1 < nI w from nI_nlt (a := 1) q1 (by decide)), if_neg (show ¬ nI x < 1 from nI_nlt (b := 1) q2 hx), hj, Option.bind_some, if_neg (nI_ge (by omega) hx)]
    · rw [if_neg (fun z => q2 z.2.1)]
      refine ⟨f, ?_, h⟩
      unfold MX3_changeSetting
      rw [if_neg (nI_pos hw), if_neg (show ¬ 1 < nI w from nI_nlt (a := 1) q1 (by decide)), if_pos (show nI x < 1 from nI_lt (b := 1) (by omega) (by decide))]
  · rw [if_neg (fun z => q1 z.1)]
    refine ⟨f, ?_, h⟩
    unfold MX3_changeSetting
    rw [if_neg (nI_pos hw), if_pos (show 1 < nI w from nI_lt (a := 1) (by omega) hw)]
theorem go_begin (h : RepC a f) (hi : aInv a) {m : Nat} (hm : m < 2 ^ 31) : ∃ g, MX3_beginAnew f (nI m) = some ((oBegin a m).1, g) ∧ RepC (oBegin a m).2 g := by
  unfold oBegin
  by_cases q1 : 3 ≤ m
  · by_cases q2 : m ≤ 9
    · rw [if_pos ⟨q1, q2⟩]
      exact C_begin h hi q1 q2
    · rw [if_neg (fun z => q2 z.2)]
      refine ⟨f, ?_, h⟩
      unfold MX3_beginAnew
      rw [if_neg (show ¬ nI m < 3 from nI_nlt (b := 3) q1 hm), if_neg (show ¬ nI m ≤ 9 from nI_ge (a := 9) (by omega) hm)]
  · rw [if_neg (fun z => q1 z.1)]
    refine ⟨f, ?_, h⟩
    unfold MX3_beginAnew
    rw [if_pos (show nI m < 3 from nI_lt (b := 3) (by omega) (by decide))]
end OPS
