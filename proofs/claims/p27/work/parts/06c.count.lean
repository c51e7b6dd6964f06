/-! counts, safeFor, sums: both sides alike -/
def aSafe (a : Abs) (r : Nat) : Bool := decide (aF a 1 r = 1 ∧ aBack a r + aUnk a r = 8)
def bits (p : Nat → Bool) : Nat → Nat
  | 0 => 0
  | k + 1 => bits p k + 2 ^ k * b1 (p k)
theorem bits_lt (p : Nat → Bool) : ∀ k, bits p k < 2 ^ k
  | 0 => Nat.zero_lt_one
  | k + 1 => by
    have := bits_lt p k
    have h2 := b1_le (p k)
    show bits p k + 2 ^ k * b1 (p k) < 2 ^ (k + 1)
    have : 2 ^ k * b1 (p k) ≤ 2 ^ k * 1 := Nat.mul_le_mul_left _ h2
    rw [Nat.pow_succ]
    omega
theorem bits_lo (p : Nat → Bool) : ∀ N k, k ≤ N → ∃ m, bits p N = bits p k + 2 ^ k * m
  | 0, k, h => ⟨0, by have : k = 0 := by omega
                      subst this; rfl⟩
  | N + 1, k, h => by
    by_cases q : k = N + 1
    · subst q; exact ⟨0, rfl⟩
    · obtain ⟨m, hm⟩ := bits_lo p N k (by omega)
      refine ⟨m + 2 ^ (N - k) * b1 (p N), ?_⟩
      show bits p N + 2 ^ N * b1 (p N) = _
      rw [hm, Nat.mul_add, ← Nat.mul_assoc, ← Nat.pow_add, show k + (N - k) = N by omega, Nat.add_assoc]
theorem bits_get (p : Nat → Bool) {N k : Nat} (h : k < N) : bits p N / 2 ^ k % 2 = b1 (p k) := by
  obtain ⟨m, hm⟩ := bits_lo p N (k + 1) h
  have h1 := bits_lt p k
  have h2 := b1_le (p k)
  rw [hm, show bits p (k + 1) = bits p k + 2 ^ k * b1 (p k) from rfl, Nat.pow_succ, Nat.add_assoc, Nat.mul_assoc, ← Nat.mul_add, Nat.add_comm, Nat.mul_add_div (Nat.two_pow_pos k), Nat.div_eq_of_lt h1]
  omega
theorem sh9 {k : Nat} (h : k < 9) : ((nI k &&& 31).toBitVec.smod 32).toNat = k := (show ∀ k, k < 9 → ((nI k &&& 31).toBitVec.smod 32).toNat = k by decide) k h
theorem or_bit {n k : Nat} (h : n < 2 ^ k) (hk : k < 9) : nI n ||| ((1 : Int32) <<< (nI k &&& 31)) = nI (n + 2 ^ k) := by
  rw [show (1 : Int32) = nI 1 from rfl, pk_shlN (nI k &&& 31) k (sh9 hk) (by
    have : 2 ^ k ≤ 2 ^ 8 := Nat.pow_le_pow_right (by decide) (by omega)
    omega), Nat.one_mul, Int32.or_comm, show 2 ^ k = 2 ^ k * 1 from (Nat.mul_one _).symm, or_sum (a := n) (k := k) 1 h, Nat.mul_one, Nat.add_comm]
theorem bit_at {n k : Nat} (h : n < 2 ^ 31) (hk : k < 9) : (nI n >>> (nI k &&& 31)) &&& 1 = nI (n / 2 ^ k % 2) := by
  rw [pk_shrN h (nI k &&& 31) k (sh9 hk), pk_andN (n := n / 2 ^ k) (by
    have : n / 2 ^ k ≤ n := Nat.div_le_self _ _
    omega) 1 (by decide)]
def nFr (a : Abs) (r k : Nat) : Bool := match (aM a r)[k]? with
  | some e => !aOld a e
  | none => false
def ageAt (a : Abs) (r k : Nat) : Int32 := match (aM a r)[k]? with
  | some e => nI (aG a 1 - e.2.2)
  | none => 0
def sFr (a : Abs) (r : Nat) : Nat := sm (fun k => b1 (nFr a r k)) (aM a r).length
def sOl (a : Abs) (r : Nat) : Nat := sm (fun k => b1 (!nFr a r k)) (aM a r).length
theorem fr_len (a : Abs) (r : Nat) : sFr a r + sOl a r = (aM a r).length := sm_not _ _
def tFr (a : Abs) : Nat := sm (sFr a) (aG a 0)
def tOl (a : Abs) : Nat := sm (sOl a) (aG a 0)
theorem sm_add (f g : Nat → Nat) : ∀ n, sm (fun k => f k + g k) n = sm f n + sm g n
  | 0 => rfl
  | n + 1 => by
    have := sm_add f g n
    show sm _ n + (f n + g n) = (sm f n + f n) + (sm g n + g n)
    omega
theorem sm_congr {f g : Nat → Nat} : ∀ n, (∀ k, k < n → f k = g k) → sm f n = sm g n
  | 0, _ => rfl
  | n + 1, h => by
    show sm f n + f n = sm g n + g n
    rw [sm_congr n (fun k hk => h k (by omega)), h n (by omega)]
theorem sm_ub {f : Nat → Nat} {b : Nat} : ∀ n, (∀ k, k < n → f k ≤ b) → sm f n ≤ b * n
  | 0, _ => Nat.le_refl 0
  | n + 1, h => by
    show sm f n + f n ≤ b * (n + 1)
    have := sm_ub n (fun k hk => h k (by omega))
    have := h n (by omega)
    rw [Nat.mul_add]
    omega
theorem fr_all (a : Abs) : tFr a + tOl a = aEchoes a := by
  unfold tFr tOl aEchoes
  rw [← sm_add]
  exact sm_congr _ (fun k _ => fr_len a k)
section CNT
variable {a : Abs} {f s : Nat → Int32}
theorem C_n' (h : RepC a f) : MX3_get f 1 = some (nI (aG a 0)) := C_n h
theorem C_safe (h : RepC a f) (hi : aInv a) : MX4_safeRows f = some (nI (bits (aSafe a) (aG a 0))) := by
  unfold MX4_safeRows
  have hn := hi.1.2
  rw [show ((0 : Int32), (0 : Int32)) = (nI (bits (aSafe a) 0), nI 0) from rfl, itr_for (step := SX4_safeRows_4 f) (aG a 0) (fun k => (nI (bits (aSafe a) k), nI k)) (nI (bits (aSafe a) (aG a 0))) (fun k hk => ?_) (by unfold SX4_safeRows_4; dsimp only; rw [C_n h, Option.bind_some, if_pos (nI_le (Nat.le_refl _) (by omega))]) FU (FU_lt (by omega))]
  · rfl
  · unfold SX4_safeRows_4
    dsimp only
    have h1 := aBack_le a k
    have h2 := aUnk_le a k
    rw [C_n h, Option.bind_some, if_neg (nI_ge hk (by omega)), C_lives h hi hk, Option.bind_some, C_back h hi hk, C_unk h hi hk, nI_1]
    show _ = some (Sum.inl (nI (bits (aSafe a) k + 2 ^ k * b1 (aSafe a k)), nI (k + 1)))
    by_cases q : aF a 1 k = 1
    · rw [if_pos q, if_neg one_n0, Option.bind_some, Option.bind_some, nI_add, show (8 : Int32) = nI 8 from rfl]
      by_cases z : aBack a k + aUnk a k = 8
      · rw [if_pos (by rw [z]), or_bit (bits_lt _ k) (by omega), show aSafe a k = true from decide_eq_true ⟨q, z⟩]
        show _ = some (Sum.inl (nI (bits (aSafe a) k + 2 ^ k * 1), nI (k + 1)))
        rw [Nat.mul_one]
      · rw [if_neg (fun w => z ((nI_eq (by omega) (by omega)).mp w)), show aSafe a k = false from decide_eq_false (fun w => z w.2)]
        rfl
    · rw [if_neg q, if_pos rfl, show aSafe a k = false from decide_eq_false (fun w => q w.1)]
      rfl
theorem C_living (h : RepC a f) (hi : aInv a) : MX4_livingRows f = some (nI (bits (fun r => decide (aF a 1 r = 1)) (aG a 0))) := by
  unfold MX4_livingRows
  have hn := hi.1.2
  rw [show ((0 : Int32), (0 : Int32)) = (nI (bits (fun r => decide (aF a 1 r = 1)) 0), nI 0) from rfl, itr_for (step := SX4_livingRows_4 f) (aG a 0) (fun k => (nI (bits (fun r => decide (aF a 1 r = 1)) k), nI k)) (nI (bits (fun r => decide (aF a 1 r = 1)) (aG a 0))) (fun k hk => ?_) (by unfold SX4_livingRows_4; dsimp only; rw [C_n h, Option.bind_some, if_pos (nI_le (Nat.le_refl _) (by omega))]) FU (FU_lt (by omega))]
  · rfl
  · unfold SX4_livingRows_4
    dsimp only
    rw [C_n h, Option.bind_some, if_neg (nI_ge hk (by omega)), C_lvx h hi hk, Option.bind_some, nI_1]
    show _ = some (Sum.inl (nI (bits (fun r => decide (aF a 1 r = 1)) k + 2 ^ k * b1 (decide (aF a 1 k = 1))), nI (k + 1)))
    rcases inv_live hi hk with q | q
    · rw [q, show nI 0 = 0 from rfl, Int32.zero_shiftLeft, Int32.or_zero]
      rfl
    · rw [q, show nI 1 = 1 from rfl, or_bit (bits_lt _ k) (by omega), decide_eq_true (show 1 = 1 from rfl)]
      show _ = some (Sum.inl (nI (bits (fun r => decide (aF a 1 r = 1)) k + 2 ^ k * 1), nI (k + 1)))
      rw [Nat.mul_one]
theorem C_echoes (h : RepC a f) (hi : aInv a) : MX4_allEchoes f = some (nI (aEchoes a)) := by
  unfold MX4_allEchoes
  have hn := hi.1.2
  rw [show ((0 : Int32), (0 : Int32)) = (nI (sm (fun r => (aM a r).length) 0), nI 0) from rfl, itr_for (step := SX4_allEchoes_4 f) (aG a 0) (fun k => (nI (sm (fun r => (aM a r).length) k), nI k)) (nI (aEchoes a)) (fun k hk => ?_) (by unfold SX4_allEchoes_4; dsimp only; rw [C_n h, Option.bind_some, if_pos (nI_le (Nat.le_refl _) (by omega))]; rfl) FU (FU_lt (by omega))]
  · rfl
  · unfold SX4_allEchoes_4
    dsimp only
    rw [C_n h, Option.bind_some, if_neg (nI_ge hk (by omega)), C_ec h hi hk, Option.bind_some, nI_1, nI_add]
    rfl
theorem C_echoIn (h : RepC a f) (hi : aInv a) {r k : Nat} {e : Ech} (hr : r < aG a 0) (he : (aM a r)[k]? = some e) : MX4_echoIn f (nI r) (nI k) = some (pkE e) := by
  unfold MX4_echoIn
  rw [C_mg h hi hr he]
  rfl
theorem C_freshes (h : RepC a f) (hi : aInv a) : MX4_freshEchoes f = some (nI (tFr a)) := by
  unfold MX4_freshEchoes
  have hn := hi.1.2
  rw [show ((0 : Int32), (0 : Int32)) = (nI (sm (sFr a) 0), nI 0) from rfl, itr_for (step := SX4_freshEchoes_4 f) (aG a 0) (fun k => (nI (sm (sFr a) k), nI k)) (nI (tFr a)) (fun r hr => ?_) (by unfold SX4_freshEchoes_4; dsimp only; rw [C_n h, Option.bind_some, if_pos (nI_le (Nat.le_refl _) (by omega))]; rfl) FU (FU_lt (by omega))]
  · rfl
  · unfold SX4_freshEchoes_4
    dsimp only
    have hl := inv_len hi hr
    rw [C_n h, Option.bind_some, if_neg (nI_ge hr (by omega)), show (nI (sm (sFr a) r), (0 : Int32)) = (nI (sm (sFr a) r + sm (fun k => b1 (nFr a r k)) 0), nI 0) from rfl, itr_for (step := SX4_freshEchoes_18 f (nI (sm (sFr a) r), nI r)) (aM a r).length (fun k => (nI (sm (sFr a) r + sm (fun k => b1 (nFr a r k)) k), nI k)) (nI (sm (sFr a) r + sFr a r)) (fun k hk => ?_) (by unfold SX4_freshEchoes_18; dsimp only; rw [C_ec h hi hr, Option.bind_some, if_pos (nI_le (Nat.le_refl _) (by omega))]; rfl) FU (FU_lt (by omega))]
    · rw [Option.bind_some, nI_1]
      rfl
    · unfold SX4_freshEchoes_18
      dsimp only
      obtain ⟨e, he⟩ : ∃ e, (aM a r)[k]? = some e := ⟨_, List.getElem?_eq_getElem hk⟩
      have ho := inv_ok hi hr (List.mem_of_getElem? he)
      have hf : nFr a r k = !aOld a e := by unfold nFr; rw [he]
      rw [C_ec h hi hr, Option.bind_some, if_neg (nI_ge hk (by omega)), C_echoIn h hi hr he, Option.bind_some, C_faded h hi ho.1 ho.2, Option.bind_some, nI_1, nI_1, Int32.add_zero]
      show _ = some (Sum.inl (nI (sm (sFr a) r + (sm _ k + b1 (nFr a r k))), nI (k + 1)))
      rw [hf]
      by_cases q : aOld a e = true
      · rw [if_pos q, if_neg one_n0, q]; rfl
      · rw [if_neg q, if_pos rfl, Bool.eq_false_iff.mpr q]; rfl
def gUnk (a : Abs) (k : Nat) (x : Int32) : Int32 := if aF a 1 k = 1 then x + nI (aUnk a k) else x
def gWr (a : Abs) (k : Nat) (x : Int32) : Int32 := if aF a 1 k = 1 then x + aWr a k else x
theorem C_allUnk (h : RepC a f) (hi : aInv a) : MX4_allUnknownCells f = some (foldN (gUnk a) 0 (aG a 0)) := by
  unfold MX4_allUnknownCells
  have hn := hi.1.2
  rw [loopN (step := SX4_allUnknownCells_4 f) (aG a 0) (by omega) (gUnk a) 0 (fun x => x) (fun k x hk => ?_) (fun x => ?_)]
  · rfl
  · unfold SX4_allUnknownCells_4 gUnk
    dsimp only
    rw [C_n h, Option.bind_some, if_neg (nI_ge hk (by omega)), C_lives h hi hk, Option.bind_some, C_unk h hi hk, nI_1, Int32.add_zero]
    by_cases q : aF a 1 k = 1
    · rw [if_pos q, if_pos q, if_neg one_n0]; rfl
    · rw [if_neg q, if_neg q, if_pos rfl]
  · unfold SX4_allUnknownCells_4
    dsimp only
    rw [C_n h, Option.bind_some, if_pos (nI_le (Nat.le_refl _) (by omega))]
theorem aWr_z (hz : aWz a) {r : Nat} (hr : r < aG a 0) (hl : aF a 1 r = 0) : aWr a r = 0 := by
  unfold aWr
  rw [foldN_congr (g' := fun _ x => x + 0) 0 8 (fun k x hk => by rw [hz r k hr hk hl])]
  rfl
theorem C_allWr (h : RepC a f) (hi : aInv a) (hz : aWz a) : MX4_allWrongCells f = some (foldN (gWr a) 0 (aG a 0)) := by
  unfold MX4_allWrongCells
  have hn := hi.1.2
  rw [loopN (step := SX4_allWrongCells_4 f) (aG a 0) (by omega) (gWr a) 0 (fun x => x) (fun k x hk => ?_) (fun x => ?_)]
  · rfl
  · unfold SX4_allWrongCells_4 gWr
    dsimp only
    rw [C_n h, Option.bind_some, if_neg (nI_ge hk (by omega)), C_wrc h hi hk, Option.bind_some, nI_1]
    rcases inv_live hi hk with q | q
    · rw [if_neg (by omega), aWr_z hz hk q, Int32.add_zero]
    · rw [if_pos q]
  · unfold SX4_allWrongCells_4
    dsimp only
    rw [C_n h, Option.bind_some, if_pos (nI_le (Nat.le_refl _) (by omega))]
end CNT
