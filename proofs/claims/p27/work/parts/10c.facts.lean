/-! what the changes do to what is read -/
theorem mod_dn {q n : Nat} (h : q < n) : (q + n - 1) % n = if q = 0 then n - 1 else q - 1 := by
  by_cases z : q = 0
  · rw [if_pos z, z, Nat.zero_add]
    exact Nat.mod_eq_of_lt (by omega)
  · rw [if_neg z, show q + n - 1 = (q - 1) + n by omega, Nat.add_mod_right]
    exact Nat.mod_eq_of_lt (by omega)
theorem mod_upx {q n : Nat} (h : q < n) : (q + 1) % n = if q + 1 = n then 0 else q + 1 := by
  by_cases z : q + 1 = n
  · rw [if_pos z, z, Nat.mod_self]
  · rw [if_neg z]
    exact Nat.mod_eq_of_lt (by omega)
section FACTS
variable {a : Abs}
theorem pl_lt (hi : aInv a) {r : Nat} (hr : r < aG a 0) : aF a 0 r < aG a 0 := (hi.2.2.2.2.1 r hr).1
theorem at_pl (hi : aInv a) {r : Nat} (hr : r < aG a 0) : aF a 2 (aF a 0 r) = r := (hi.2.2.2.2.1 r hr).2.2.1
theorem pl_at (hi : aInv a) {q : Nat} (hq : q < aG a 0) : aF a 0 (aF a 2 q) = q := (hi.2.2.2.2.1 q hq).2.2.2.1
theorem pl_up (hi : aInv a) {r : Nat} (_hr : r < aG a 0) : aF a 0 (aUp a r) = (aF a 0 r + aG a 0 - 1) % aG a 0 := pl_at hi (Nat.mod_lt _ (by have := hi.1.1; omega))
theorem pl_lo (hi : aInv a) {r : Nat} (_hr : r < aG a 0) : aF a 0 (aLo a r) = (aF a 0 r + 1) % aG a 0 := pl_at hi (Nat.mod_lt _ (by have := hi.1.1; omega))
theorem lo_up (hi : aInv a) {r : Nat} (hr : r < aG a 0) : aLo a (aUp a r) = r := by
  have hn := hi.1
  have hp := pl_lt hi hr
  unfold aLo
  rw [pl_up hi hr, mod_dn hp]
  have : ((if aF a 0 r = 0 then aG a 0 - 1 else aF a 0 r - 1) + 1) % aG a 0 = aF a 0 r := by
    by_cases z : aF a 0 r = 0
    · rw [if_pos z, show aG a 0 - 1 + 1 = aG a 0 by omega, Nat.mod_self, z]
    · rw [if_neg z, show aF a 0 r - 1 + 1 = aF a 0 r by omega, Nat.mod_eq_of_lt hp]
  rw [this, at_pl hi hr]
theorem up_lo (hi : aInv a) {r : Nat} (hr : r < aG a 0) : aUp a (aLo a r) = r := by
  have hn := hi.1
  have hp := pl_lt hi hr
  unfold aUp
  rw [pl_lo hi hr, mod_upx hp]
  have : ((if aF a 0 r + 1 = aG a 0 then 0 else aF a 0 r + 1) + aG a 0 - 1) % aG a 0 = aF a 0 r := by
    by_cases z : aF a 0 r + 1 = aG a 0
    · rw [if_pos z, mod_dn (by omega), if_pos rfl]
      omega
    · rw [if_neg z, mod_dn (by omega), if_neg (by omega)]
      omega
  rw [this, at_pl hi hr]
theorem up_ne (hi : aInv a) {r : Nat} (hr : r < aG a 0) : ¬ aUp a r = r := by
  intro q
  have hn := hi.1
  have hp := pl_lt hi hr
  have := pl_up hi hr
  rw [q, mod_dn hp] at this
  split at this <;> omega
theorem lo_ne (hi : aInv a) {r : Nat} (hr : r < aG a 0) : ¬ aLo a r = r := by
  intro q
  have hn := hi.1
  have hp := pl_lt hi hr
  have := pl_lo hi hr
  rw [q, mod_upx hp] at this
  split at this <;> omega
theorem up_lo_ne (hi : aInv a) {r : Nat} (hr : r < aG a 0) : ¬ aUp a r = aLo a r := by
  intro q
  have hn := hi.1
  have hp := pl_lt hi hr
  have h1 := pl_lo hi hr
  have h2 := pl_up hi hr
  rw [← q, h2, mod_dn hp, mod_upx hp] at h1
  split at h1 <;> split at h1 <;> omega
theorem hold_ne (hi : aInv a) {r : Nat} (hr : r < aG a 0) (c : Nat) : ¬ aHold a r c = r := by
  unfold aHold
  split
  · exact up_ne hi hr
  · exact lo_ne hi hr
/-- counters -/
theorem lay1_C (a : Abs) (r c b : Nat) {i : Nat} (h : ¬ i = 9) : aC (aLay1 a r c b).2 i = aC a i := by
  unfold aLay1
  split
  · rfl
  · exact up1_n _ _ h
theorem lay1_C9 (a : Abs) (r c b : Nat) : aC (aLay1 a r c b).2 9 = aC a 9 + nI (aLay1 a r c b).1 := by
  unfold aLay1
  split
  · show aC a 9 = aC a 9 + nI 0
    rw [nI_0, Int32.add_zero]
  · exact up1_s (aC a) 9 (aC a 9 + 1)
theorem lay1_D (a : Abs) (r c b q : Nat) : aD (aLay1 a r c b).2 2 q = aD a 2 q := by
  unfold aLay1
  split
  · rfl
  · exact aD_o (sM a b _) b q _ (show ¬ 2 = 3 by decide)
theorem lay1_N (a : Abs) (r c b : Nat) (h : aV a r c = 0) : (aLay1 a r c b).1 = 0 := by
  unfold aLay1
  rw [if_pos (Or.inl h)]
theorem layN_C (a : Abs) (r : Nat) {i : Nat} (h : ¬ i = 9) : ∀ k, aC (aLayN a r k).2 i = aC a i
  | 0 => rfl
  | k + 1 => by
    show aC (aLay1 (aLayN a r k).2 r k (aHold a r k)).2 i = _
    rw [lay1_C _ _ _ _ h, layN_C a r h k]
theorem layN_C9 (a : Abs) (r : Nat) : ∀ k, aC (aLayN a r k).2 9 = aC a 9 + nI (aLayN a r k).1
  | 0 => by
    show aC a 9 = aC a 9 + nI 0
    rw [nI_0, Int32.add_zero]
  | k + 1 => by
    show aC (aLay1 (aLayN a r k).2 r k (aHold a r k)).2 9 = aC a 9 + nI ((aLayN a r k).1 + (aLay1 (aLayN a r k).2 r k (aHold a r k)).1)
    rw [lay1_C9, layN_C9 a r k, Int32.add_assoc, nI_add]
theorem layN_D (a : Abs) (r q : Nat) : ∀ k, aD (aLayN a r k).2 2 q = aD a 2 q
  | 0 => rfl
  | k + 1 => by
    show aD (aLay1 (aLayN a r k).2 r k (aHold a r k)).2 2 q = _
    rw [lay1_D, layN_D a r q k]
theorem layN_N (a : Abs) (r : Nat) : ∀ k, (aLayN a r k).1 + sm (fun c => b1 (decide (aV a r c = 0))) k ≤ k
  | 0 => Nat.le_refl 0
  | k + 1 => by
    have ih := layN_N a r k
    show ((aLayN a r k).1 + (aLay1 (aLayN a r k).2 r k (aHold a r k)).1) + (sm (fun c => b1 (decide (aV a r c = 0))) k + b1 (decide (aV a r k = 0))) ≤ k + 1
    have h1 := lay1_le (aLayN a r k).2 r k (aHold a r k)
    by_cases z : aV a r k = 0
    · have := lay1_N (aLayN a r k).2 r k (aHold a r k) (by rw [layN_V]; exact z)
      have := b1_le (decide (aV a r k = 0))
      omega
    · rw [decide_eq_false z]
      show _ + (_ + 0) ≤ _
      omega
theorem layR_C (a : Abs) (r : Nat) {i : Nat} (h : ¬ i = 9) : aC (aLayRow a r).2 i = aC a i := by
  unfold aLayRow
  split
  · exact layN_C a r h 8
  · rfl
theorem layR_C9 (a : Abs) (r : Nat) : aC (aLayRow a r).2 9 = aC a 9 + nI (aLayRow a r).1 := by
  unfold aLayRow
  split
  · exact layN_C9 a r 8
  · show aC a 9 = aC a 9 + nI 0
    rw [nI_0, Int32.add_zero]
theorem layR_D (a : Abs) (r q : Nat) : aD (aLayRow a r).2 2 q = aD a 2 q := by
  unfold aLayRow
  split
  · exact layN_D a r q 8
  · rfl
theorem layR_N (a : Abs) (r : Nat) : (aLayRow a r).1 + aUnk a r ≤ 8 := by
  unfold aLayRow aUnk
  split
  · exact layN_N a r 8
  · show 0 + _ ≤ 8
    have := aUnk_le a r
    unfold aUnk at this
    omega
/-- losing -/
theorem lose_heard (hi : aInv a) {r : Nat} (hr : r < aG a 0) (c : Nat) : aHeard (aLose a r).2 r c = aHeard a r c := by
  have h0 : aHold (aLose a r).2 r c = aHold a r c := rfl
  have h1 : aM (aLose a r).2 (aHold a r c) = aM a (aHold a r c) := up1_n _ _ (hold_ne hi hr c)
  unfold aHeard
  rw [h0, h1]
  rfl
theorem lose_back (hi : aInv a) {r : Nat} (hr : r < aG a 0) : aBack (aLose a r).2 r = aBack a r := by
  unfold aBack
  refine sm_congr 8 (fun c _ => ?_)
  have hv : aHv (aLose a r).2 r c = aHv a r c := by
    unfold aHv
    rw [lose_heard hi hr c]
  rw [hv]
  rfl
theorem lose_F1 (a : Abs) (r q : Nat) : aF (aLose a r).2 1 q = if q = r then 0 else aF a 1 q := by
  show up2 (aF a) 1 r 0 1 q = _
  by_cases z : q = r
  · rw [if_pos z, z, up2_s]
  · rw [if_neg z, up2_n _ _ (fun y => z y.2)]
theorem lose_D (a : Abs) (r q : Nat) : aD (aLose a r).2 2 q = if q = r then aD a 2 r + 1 else aD a 2 q := by
  show up2 (aD a) 2 r (aD a 2 r + 1) 2 q = _
  by_cases z : q = r
  · rw [if_pos z, z, up2_s]
  · rw [if_neg z, up2_n _ _ (fun y => z y.2)]
theorem lose_C5 (a : Abs) (r : Nat) : aC (aLose a r).2 5 = aC a 5 + 1 := up1_s (aC a) 5 (aC a 5 + 1)
theorem lose_Ci (a : Abs) (r : Nat) {i : Nat} (h : ¬ i = 5) : aC (aLose a r).2 i = aC a i := up1_n _ _ h
/-- mending -/
theorem mend_C (a : Abs) (r : Nat) {i : Nat} (h6 : ¬ i = 6) (h7 : ¬ i = 7) (h8 : ¬ i = 8) (h9 : ¬ i = 9) : aC (aMend a r).2 i = aC a i := by
  unfold aMend
  dsimp only
  rw [aC_r _ _ h7, aC_r _ _ h6, layR_C _ _ h9, layR_C _ _ h9, layR_C _ _ h9]
  show aC (aMendCells a r) i = aC a i
  unfold aMendCells
  rw [aC_r _ _ h8]
  rfl
theorem mend_C6 (a : Abs) (r : Nat) : aC (aMend a r).2 6 = aC a 6 + 1 := by
  unfold aMend
  dsimp only
  rw [aC_r _ _ (show ¬ 6 = 7 by decide), aC_s, layR_C _ _ (show ¬ 6 = 9 by decide), layR_C _ _ (show ¬ 6 = 9 by decide), layR_C _ _ (show ¬ 6 = 9 by decide)]
  show aC (aMendCells a r) 6 + 1 = aC a 6 + 1
  unfold aMendCells
  rw [aC_r _ _ (show ¬ 6 = 8 by decide)]
  rfl
theorem mend_C7 (a : Abs) (r : Nat) : aC (aMend a r).2 7 = aC a 7 + nI (aBack a r) := by
  unfold aMend
  dsimp only
  rw [aC_s, layR_C _ _ (show ¬ 7 = 9 by decide), layR_C _ _ (show ¬ 7 = 9 by decide), layR_C _ _ (show ¬ 7 = 9 by decide)]
  show aC (aMendCells a r) 7 + nI (aBack a r) = aC a 7 + nI (aBack a r)
  unfold aMendCells
  rw [aC_r _ _ (show ¬ 7 = 8 by decide)]
  rfl
theorem mend_C8 (a : Abs) (r : Nat) : aC (aMend a r).2 8 = aC a 8 + nI (aWrongs a r) := by
  unfold aMend
  dsimp only
  rw [aC_r _ _ (show ¬ 8 = 7 by decide), aC_r _ _ (show ¬ 8 = 6 by decide), layR_C _ _ (show ¬ 8 = 9 by decide), layR_C _ _ (show ¬ 8 = 9 by decide), layR_C _ _ (show ¬ 8 = 9 by decide)]
  show aC (aMendCells a r) 8 = aC a 8 + nI (aWrongs a r)
  unfold aMendCells
  rw [aC_s]
theorem mend_D (a : Abs) (r q : Nat) : aD (aMend a r).2 2 q = aD a 2 q := by
  unfold aMend
  dsimp only
  show aD (aLayRow (aLayRow (aLayRow (sF (aMendCells a r) 1 r 1) (aUp a r)).2 (aLo a r)).2 r).2 2 q = aD a 2 q
  rw [layR_D, layR_D, layR_D]
  rfl
theorem mend_W (a : Abs) (r c : Nat) : aW (aMend a r).2 r c = if 0 < aHv a r c ∧ ¬ aHv a r c = aV a r c then 1 else 0 := by
  have : aW (aMend a r).2 = aW (aMendCells a r) := by
    unfold aMend
    dsimp only
    show aW (aLayRow (aLayRow (aLayRow (sF (aMendCells a r) 1 r 1) (aUp a r)).2 (aLo a r)).2 r).2 = aW (aMendCells a r)
    rw [layR_W, layR_W, layR_W]
    rfl
  rw [this]
  show (if r = r then _ else _) = _
  rw [if_pos rfl]
theorem mend_Vr (a : Abs) (r c : Nat) : aV (aMend a r).2 r c = aHv a r c := by
  have : aV (aMend a r).2 = aV (aMendCells a r) := by
    unfold aMend
    dsimp only
    show aV (aLayRow (aLayRow (aLayRow (sF (aMendCells a r) 1 r 1) (aUp a r)).2 (aLo a r)).2 r).2 = aV (aMendCells a r)
    rw [layR_V, layR_V, layR_V]
    rfl
  rw [this]
  show (if r = r then _ else _) = _
  rw [if_pos rfl]
theorem foldN_nI {g : Nat → Int32} {p : Nat → Bool} (h : ∀ c, g c = nI (b1 (p c))) : ∀ n, foldN (fun c x => x + g c) 0 n = nI (sm (fun c => b1 (p c)) n)
  | 0 => rfl
  | n + 1 => by
    show foldN (fun c x => x + g c) 0 n + g n = nI (sm (fun c => b1 (p c)) n + b1 (p n))
    rw [foldN_nI h n, h n, nI_add]
theorem mend_aWr (a : Abs) (r : Nat) : aWr (aMend a r).2 r = nI (aWrongs a r) := by
  unfold aWr aWrongs
  refine foldN_nI (fun c => ?_) 8
  rw [mend_W]
  by_cases z1 : 0 < aHv a r c
  · by_cases z2 : aHv a r c = aV a r c
    · rw [if_neg (fun y => y.2 z2), decide_eq_true z1, decide_eq_true z2]
      rfl
    · rw [if_pos ⟨z1, z2⟩, decide_eq_true z1, decide_eq_false z2]
      rfl
  · rw [if_neg (fun y => z1 y.1), decide_eq_false z1]
    rfl
theorem mend_unk (a : Abs) (r : Nat) : aUnk (aMend a r).2 r = 8 - aBack a r - aWrongs a r := by
  have h1 := sm_not (fun c => decide (0 < aHv a r c)) 8
  have h2 := heards_eq a r
  unfold aHeards at h2
  have h3 : aUnk (aMend a r).2 r = sm (fun k => b1 (!decide (0 < aHv a r k))) 8 := by
    unfold aUnk
    refine sm_congr 8 (fun c _ => ?_)
    rw [mend_Vr]
    by_cases z : 0 < aHv a r c
    · rw [decide_eq_true z, decide_eq_false (show ¬ aHv a r c = 0 by omega)]
      rfl
    · rw [decide_eq_false z, decide_eq_true (show aHv a r c = 0 by omega)]
      rfl
  rw [h3]
  omega
/-- writing -/
theorem write_C9 (a : Abs) (r c v : Nat) : aC (aWrite a r c v).2 9 = aC a 9 + nI (aWrite a r c v).1 := by
  unfold aWrite
  rw [lay1_C9, aC_r _ _ (show ¬ 9 = 4 by decide)]
  rfl
theorem write_Ci (a : Abs) (r c v : Nat) {i : Nat} (h4 : ¬ i = 4) (h9 : ¬ i = 9) : aC (aWrite a r c v).2 i = aC a i := by
  unfold aWrite
  rw [lay1_C _ _ _ _ h9, aC_r _ _ h4]
  rfl
theorem write_D (a : Abs) (r c v q : Nat) : aD (aWrite a r c v).2 2 q = aD a 2 q := by
  unfold aWrite
  rw [lay1_D]
  rfl
theorem write_F (a : Abs) (r c v : Nat) : aF (aWrite a r c v).2 = aF a := by
  unfold aWrite
  rw [lay1_F]
  rfl
theorem write_G (a : Abs) (r c v : Nat) : aG (aWrite a r c v).2 = aG a := by
  unfold aWrite
  rw [lay1_G]
  rfl
theorem write_V (a : Abs) (r c v : Nat) : aV (aWrite a r c v).2 r c = v + 1 := by
  unfold aWrite
  rw [lay1_V]
  show up2 (aV a) r c (v + 1) r c = v + 1
  exact up2_s _ _ _ _
theorem write_W (a : Abs) (r c v : Nat) : aW (aWrite a r c v).2 r c = 0 := by
  unfold aWrite
  rw [lay1_W]
  show up2 (aW a) r c 0 r c = 0
  exact up2_s _ _ _ _
theorem write_1 (hi : aInv a) {r c v : Nat} : (aWrite a r c v).1 = aF a 1 (aHold a r c) := by
  have hb := inv_hold hi r c
  have h01 := inv_live hi hb
  unfold aWrite aLay1
  have hV : aV (sC (sW (sV a r c (v + 1)) r c 0) 4 (aC a 4 + 1)) r c = v + 1 := up2_s _ _ _ _
  have hF : aF (sC (sW (sV a r c (v + 1)) r c 0) 4 (aC a 4 + 1)) 1 (aHold a r c) = aF a 1 (aHold a r c) := rfl
  rw [hV, hF]
  rcases h01 with w | w
  · rw [if_pos (Or.inr w), w]
  · rw [if_neg (by omega), w]
theorem find_snoc {L : List Ech} {x : Ech} (h : ∀ e ∈ L, ¬ e.1 = x.1) : aFind (L ++ [x]) x.1 = some x := by
  unfold aFind
  rw [List.find?_append, List.find?_eq_none.mpr (fun e he => by
    rw [decide_eq_true_iff]
    exact h e he)]
  simp
theorem write_heard (hi : aInv a) {r c v : Nat} (hl : aF a 1 (aHold a r c) = 1) : aHeard (aWrite a r c v).2 r c = some (8 * r + c, v, aG a 1) := by
  have hh : aHold (aWrite a r c v).2 r c = aHold a r c := by
    unfold aHold
    rw [aUp_congr (a := a) (a' := (aWrite a r c v).2) (by rw [write_G]) (fun _ => by rw [write_F]) (fun _ => by rw [write_F]), aLo_congr (a := a) (a' := (aWrite a r c v).2) (by rw [write_G]) (fun _ => by rw [write_F]) (fun _ => by rw [write_F])]
  have hM : ∃ L : List Ech, (∀ e ∈ L, ¬ e.1 = 8 * r + c) ∧ aM (aWrite a r c v).2 (aHold a r c) = L ++ [(8 * r + c, v, aG a 1)] := by
    unfold aWrite aLay1
    have hV : aV (sC (sW (sV a r c (v + 1)) r c 0) 4 (aC a 4 + 1)) r c = v + 1 := up2_s _ _ _ _
    have hF : aF (sC (sW (sV a r c (v + 1)) r c 0) 4 (aC a 4 + 1)) 1 (aHold a r c) = aF a 1 (aHold a r c) := rfl
    rw [hV, hF, if_neg (by omega)]
    refine ⟨_, fun e he => ?_, up1_s _ _ _⟩
    have := List.mem_of_mem_drop he
    rw [List.mem_filter] at this
    have h2 := this.2
    intro z
    rw [decide_eq_true z] at h2
    exact absurd h2 (by decide)
  obtain ⟨L, hL, hM⟩ := hM
  unfold aHeard
  rw [hh, hM, find_snoc (x := (8 * r + c, v, aG a 1)) hL, Option.filter_some, if_pos]
  unfold aOld
  rw [write_G]
  show (!decide (aG a 3 < aG a 1 - aG a 1)) = true
  rw [decide_eq_false (by omega)]
  rfl
/-- swapping -/
theorem swap_0 (a : Abs) {x y : Nat} (hxy : ¬ x = y) : aF (aSwap a x y).2 0 x = aF a 0 y ∧ aF (aSwap a x y).2 0 y = aF a 0 x := by
  unfold aSwap
  dsimp only
  constructor
  · rw [aF_o _ _ _ _ (show ¬ 0 = 2 by decide), aF_o _ _ _ _ (show ¬ 0 = 2 by decide), aF_r _ _ _ hxy, aF_s]
  · rw [aF_o _ _ _ _ (show ¬ 0 = 2 by decide), aF_o _ _ _ _ (show ¬ 0 = 2 by decide), aF_s]
theorem swap_1 (a : Abs) (x y q : Nat) : aF (aSwap a x y).2 1 q = aF a 1 q := by
  unfold aSwap
  dsimp only
  rw [aF_o _ _ _ _ (show ¬ 1 = 2 by decide), aF_o _ _ _ _ (show ¬ 1 = 2 by decide), aF_o _ _ _ _ (show ¬ 1 = 0 by decide), aF_o _ _ _ _ (show ¬ 1 = 0 by decide)]
end FACTS
