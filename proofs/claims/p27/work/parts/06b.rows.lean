/-! row, would and counts: both sides alike -/
def foldN {α : Type} (g : Nat → α → α) (x0 : α) : Nat → α
  | 0 => x0
  | k + 1 => g k (foldN g x0 k)
theorem loopN {α ρ : Type} {step : α × Int32 → Option ((α × Int32) ⊕ ρ)} (N : Nat) (hN : N < 4000) (g : Nat → α → α) (x0 : α) (q : α → ρ) (hs : ∀ k x, k < N → step (x, nI k) = some (.inl (g k x, nI (k + 1)))) (he : ∀ x, step (x, nI N) = some (.inr (q x))) : itr step FU (x0, 0) = some (q (foldN g x0 N)) :=
  itr_for (step := step) N (fun k => (foldN g x0 k, nI k)) (q (foldN g x0 N)) (fun k hk => hs k _ hk) (he _) FU (FU_lt hN)
theorem foldN_congr {α : Type} {g g' : Nat → α → α} (x0 : α) : ∀ N, (∀ k x, k < N → g k x = g' k x) → foldN g x0 N = foldN g' x0 N
  | 0, _ => rfl
  | n + 1, h => by
    show g n (foldN g x0 n) = g' n (foldN g' x0 n)
    rw [foldN_congr x0 n (fun k x hk => h k x (by omega)), h n _ (by omega)]
theorem sm_le {f : Nat → Nat} {b : Nat} (h : ∀ k, f k ≤ b) : ∀ n, sm f n ≤ b * n
  | 0 => Nat.le_refl 0
  | n + 1 => by
    show sm f n + f n ≤ b * (n + 1)
    have := sm_le h n
    have := h n
    rw [Nat.mul_add]
    omega
theorem b1_le (p : Bool) : b1 p ≤ 1 := by cases p <;> decide
theorem sm_b1_le (p : Nat → Bool) (n : Nat) : sm (fun k => b1 (p k)) n ≤ n := by
  have := sm_le (f := fun k => b1 (p k)) (b := 1) (fun k => b1_le _) n
  omega
theorem sm_not (p : Nat → Bool) : ∀ n, sm (fun k => b1 (p k)) n + sm (fun k => b1 (!p k)) n = n
  | 0 => rfl
  | n + 1 => by
    have := sm_not p n
    show (sm _ n + b1 (p n)) + (sm _ n + b1 (!p n)) = n + 1
    have : b1 (p n) + b1 (!p n) = 1 := by cases p n <;> rfl
    omega
theorem aBack_le (a : Abs) (r : Nat) : aBack a r ≤ 8 := sm_b1_le _ 8
theorem aWrongs_le (a : Abs) (r : Nat) : aWrongs a r ≤ 8 := sm_b1_le _ 8
def aUnk (a : Abs) (r : Nat) : Nat := sm (fun c => b1 (decide (aV a r c = 0))) 8
theorem aUnk_le (a : Abs) (r : Nat) : aUnk a r ≤ 8 := sm_b1_le _ 8
def aWr (a : Abs) (r : Nat) : Int32 := foldN (fun c x => x + aW a r c) 0 8
theorem nI_b1 (n : Nat) (p : Bool) : nI n + nI (b1 p) = nI (n + b1 p) := nI_add _ _
section SRV
variable {a : Abs} {f s : Nat → Int32}
theorem C_known (h : RepC a f) (hi : aInv a) {r c : Nat} (hr : r < aG a 0) (hc : c < 8) : MX4_isKnown f (nI r) (nI c) = some (if aV a r c = 0 then 0 else 1) := by
  have hV := inv_V hi hr hc
  unfold MX4_isKnown
  rw [C_val h hi hr hc, Option.bind_some]
  by_cases q : aV a r c = 0
  · rw [if_pos q, q, m1_of0, if_pos rfl]
  · rw [if_neg q, nI_m1 (by omega), if_neg (m1_ne _ (by omega))]
theorem C_unk (h : RepC a f) (hi : aInv a) {r : Nat} (hr : r < aG a 0) : MX4_unknownCells f (nI r) = some (nI (aUnk a r)) := by
  unfold MX4_unknownCells
  rw [show ((0 : Int32), (0 : Int32)) = (nI (sm (fun c => b1 (decide (aV a r c = 0))) 0), nI 0) from rfl, itr_for (step := SX4_unknownCells_4 f (nI r)) 8 (fun k => (nI (sm (fun c => b1 (decide (aV a r c = 0))) k), nI k)) (nI (aUnk a r)) (fun k hk => ?_) (by unfold SX4_unknownCells_4; dsimp only; rw [if_pos (by decide)]; rfl) FU (FU_lt (by decide))]
  · rfl
  · unfold SX4_unknownCells_4
    dsimp only
    rw [if_neg (show ¬ (8 : Int32) ≤ nI k from nI_ge (b := 8) hk (by decide)), C_known h hi hr hk, Option.bind_some, nI_1, Int32.add_zero, nI_1]
    show _ = some (Sum.inl (nI (sm _ k + b1 (decide (aV a r k = 0))), nI (k + 1)))
    by_cases z : aV a r k = 0
    · rw [if_pos z, if_pos rfl, decide_eq_true z]; rfl
    · rw [if_neg z, if_neg one_n0, decide_eq_false z]; rfl
theorem C_wrc (h : RepC a f) (hi : aInv a) {r : Nat} (hr : r < aG a 0) : MX4_wrongCells f (nI r) = some (aWr a r) := by
  unfold MX4_wrongCells
  rw [loopN (step := SX4_wrongCells_4 f (nI r)) 8 (by decide) (fun c x => x + aW a r c) 0 (fun x => x) (fun k x hk => ?_) (fun x => ?_)]
  · rfl
  · unfold SX4_wrongCells_4
    dsimp only
    rw [if_neg (show ¬ (8 : Int32) ≤ nI k from nI_ge (b := 8) hk (by decide)), C_wr h hi hr hk, Option.bind_some, nI_1]
  · unfold SX4_wrongCells_4
    dsimp only
    rw [if_pos (by decide)]
theorem C_d2 (h : RepC a f) (hi : aInv a) {r : Nat} (hr : r < aG a 0) : MX3_get f (37 + nI r) = some (aD a 2 r) := by
  have := hi.1.2
  rw [show (37 : Int32) = nI 37 from rfl, nI_add, getN f (by omega), (h.2.2.1 r hr).2.2.2.1]
theorem C_d3 (h : RepC a f) (hi : aInv a) {r : Nat} (hr : r < aG a 0) : MX3_get f (46 + nI r) = some (aD a 3 r) := by
  have := hi.1.2
  rw [show (46 : Int32) = nI 46 from rfl, nI_add, getN f (by omega), (h.2.2.1 r hr).2.2.2.2.1]
theorem inv_live (hi : aInv a) {r : Nat} (hr : r < aG a 0) : aF a 1 r = 0 ∨ aF a 1 r = 1 := by
  have := (hi.2.2.2.2.1 r hr).2.2.2.2.1
  omega
/-- what an echo for a row bears: how many are heard, the greatest age -/
def aHeards (a : Abs) (r : Nat) (k : Nat) : Nat := sm (fun c => b1 (decide (0 < aHv a r c))) k
def ageI (a : Abs) (r c : Nat) : Int32 := match aHeard a r c with
  | some e => nI (aG a 1 - e.2.2)
  | none => -1000004
def aOldestI (a : Abs) (r : Nat) (k : Nat) : Int32 := foldN (fun c x => if x < ageI a r c then ageI a r c else x) (-1000004) k
theorem heards_split (a : Abs) (r : Nat) : ∀ k, aHeards a r k = sm (fun c => b1 (decide (0 < aV a r c) && decide (aHv a r c = aV a r c))) k + sm (fun c => b1 (decide (0 < aHv a r c) && !decide (aHv a r c = aV a r c))) k
  | 0 => rfl
  | k + 1 => by
    have := heards_split a r k
    show aHeards a r k + b1 (decide (0 < aHv a r k)) = (sm _ k + b1 (decide (0 < aV a r k) && decide (aHv a r k = aV a r k))) + (sm _ k + b1 (decide (0 < aHv a r k) && !decide (aHv a r k = aV a r k)))
    have : b1 (decide (0 < aHv a r k)) = b1 (decide (0 < aV a r k) && decide (aHv a r k = aV a r k)) + b1 (decide (0 < aHv a r k) && !decide (aHv a r k = aV a r k)) := by
      by_cases z : aHv a r k = aV a r k
      · rw [decide_eq_true z, Bool.and_true, Bool.not_true, Bool.and_false, z]; rfl
      · rw [decide_eq_false z, Bool.and_false, Bool.not_false, Bool.and_true]; exact (Nat.zero_add _).symm
    omega
theorem oldest_ge (a : Abs) (r : Nat) : ∀ k, (-1000004 : Int32).toInt ≤ (aOldestI a r k).toInt
  | 0 => Int.le_refl _
  | k + 1 => by
    have := oldest_ge a r k
    show _ ≤ (if aOldestI a r k < ageI a r k then ageI a r k else aOldestI a r k).toInt
    by_cases q : aOldestI a r k < ageI a r k
    · rw [if_pos q]
      rw [Int32.lt_iff_toInt_lt] at q
      omega
    · rw [if_neg q]; exact this
end SRV
