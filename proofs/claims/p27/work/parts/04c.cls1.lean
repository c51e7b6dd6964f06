/-! the class: what it reads of a state -/
section CLS
variable {a : Abs} {f : Nat → Int32}
theorem C_n (h : RepC a f) : MX3_get f 1 = some (nI (aG a 0)) := by rw [show (1 : Int32) = nI 1 from rfl, getN f (by decide), h.1.2.1]
theorem C_day (h : RepC a f) : MX3_get f 0 = some (nI (aG a 1)) := by rw [show (0 : Int32) = nI 0 from rfl, getN f (by decide), h.1.1]
theorem C_brs (h : RepC a f) : MX3_get f 2 = some (nI (aG a 2)) := by rw [show (2 : Int32) = nI 2 from rfl, getN f (by decide), h.1.2.2.1]
theorem C_fds (h : RepC a f) : MX3_get f 3 = some (nI (aG a 3)) := by rw [show (3 : Int32) = nI 3 from rfl, getN f (by decide), h.1.2.2.2]
theorem C_pl (h : RepC a f) (hi : aInv a) {r : Nat} (hr : r < aG a 0) : MX3_get f (10 + nI r) = some (nI (aF a 0 r)) := by
  have := hi.1.2
  rw [show (10 : Int32) = nI 10 from rfl, ix_a, getN f (by omega), (h.2.2.1 r hr).1]
theorem C_at (h : RepC a f) (hi : aInv a) {r : Nat} (hr : r < aG a 0) : MX3_get f (19 + nI r) = some (nI (aF a 2 r)) := by
  have := hi.1.2
  rw [show (19 : Int32) = nI 19 from rfl, ix_a, getN f (by omega), (h.2.2.1 r hr).2.1]
theorem C_lvx (h : RepC a f) (hi : aInv a) {r : Nat} (hr : r < aG a 0) : MX3_get f (28 + nI r) = some (nI (aF a 1 r)) := by
  have := hi.1.2
  rw [show (28 : Int32) = nI 28 from rfl, ix_a, getN f (by omega), (h.2.2.1 r hr).2.2.1]
theorem C_ec (h : RepC a f) (hi : aInv a) {r : Nat} (hr : r < aG a 0) : MX3_get f (55 + nI r) = some (nI (aM a r).length) := by
  have := hi.1.2
  rw [show (55 : Int32) = nI 55 from rfl, ix_a, getN f (by omega), (h.2.2.1 r hr).2.2.2.2.2]
theorem C_val (h : RepC a f) (hi : aInv a) {r c : Nat} (hr : r < aG a 0) (hc : c < 8) : MX3_get f ((64 + nI r * 8) + nI c) = some (nI (aV a r c) - 1) := by
  have := hi.1.2
  rw [show (64 : Int32) = nI 64 from rfl, ix_8k, getN f (by omega), (h.2.2.2.1 r c hr hc).1]
theorem C_val2 (h : RepC a f) (hi : aInv a) {r c : Nat} (hr : r < aG a 0) (hc : c < 8) : MX3_get f (64 + ((nI r * 8) + nI c)) = some (nI (aV a r c) - 1) := by
  have := hi.1.2
  rw [show (64 : Int32) = nI 64 from rfl, ix_8, ix_a, ← Nat.add_assoc, getN f (by omega), (h.2.2.2.1 r c hr hc).1]
theorem C_wr (h : RepC a f) (hi : aInv a) {r c : Nat} (hr : r < aG a 0) (hc : c < 8) : MX3_get f ((136 + nI r * 8) + nI c) = some (aW a r c) := by
  have := hi.1.2
  rw [show (136 : Int32) = nI 136 from rfl, ix_8k, getN f (by omega), (h.2.2.2.1 r c hr hc).2]
theorem inv_ok (hi : aInv a) {r : Nat} {e : Ech} (hr : r < aG a 0) (he : e ∈ aM a r) : okE e ∧ e.2.2 ≤ aG a 1 := by
  obtain ⟨⟨-, h1⟩, h2, -, -, -, -, h3, -⟩ := hi
  obtain ⟨g1, g2, g3⟩ := h3 r e hr he
  exact ⟨⟨by omega, g2, by omega⟩, g3⟩
theorem inv_len (hi : aInv a) {r : Nat} (hr : r < aG a 0) : (aM a r).length ≤ 16 := by
  obtain ⟨-, -, ⟨-, h1⟩, -, h2, -⟩ := hi
  have := (h2 r hr).2.2.2.2.2.1
  omega
theorem C_mg (h : RepC a f) (hi : aInv a) {r k : Nat} {e : Ech} (hr : r < aG a 0) (he : (aM a r)[k]? = some e) : MX3_get f ((208 + nI r * 16) + nI k) = some (pkE e) := by
  have h1 := hi.1.2
  have h2 := inv_len hi hr
  have h3 : k < (aM a r).length := (List.getElem?_eq_some_iff.mp he).1
  rw [show (208 : Int32) = nI 208 from rfl, ix_16, getN f (by omega), h.2.2.2.2 r k e hr he]
theorem C_lives (h : RepC a f) (hi : aInv a) {r : Nat} (hr : r < aG a 0) : MX3_lives f (nI r) = some (if aF a 1 r = 1 then 1 else 0) := by
  unfold MX3_lives
  rw [C_lvx h hi hr]
  show (if nI (aF a 1 r) = 1 then some 1 else some 0) = _
  have h1 := (hi.2.2.2.2.1 r hr).2.2.2.2.1
  rcases (show aF a 1 r = 0 ∨ aF a 1 r = 1 by omega) with q | q
  · rw [q]; rfl
  · rw [q]; rfl
theorem C_age (h : RepC a f) {e : Ech} (ho : okE e) (hd : e.2.2 ≤ aG a 1) : MX3_ageOf f (pkE e) = some (nI (aG a 1 - e.2.2)) := by
  unfold MX3_ageOf
  rw [C_day h, Option.bind_some, day_pk ho, Option.bind_some]
  rw [pk_sub hd]
theorem C_faded (h : RepC a f) (hi : aInv a) {e : Ech} (ho : okE e) (hd : e.2.2 ≤ aG a 1) : MX3_isFaded f (pkE e) = some (if aOld a e = true then 1 else 0) := by
  unfold MX3_isFaded
  rw [C_day h, Option.bind_some, day_pk ho, Option.bind_some, C_fds h, Option.bind_some]
  have h1 := hi.2.1
  have h2 := hi.2.2.2.1.2
  rw [pk_sub hd]
  unfold aOld
  by_cases q : aG a 3 < aG a 1 - e.2.2
  · rw [if_neg (nI_ge q (by omega)), decide_eq_true q]; rfl
  · rw [if_pos (nI_le (by omega) (by omega)), decide_eq_false q]; rfl
theorem C_step {c : Nat} (hc : c < 8) : MX3_stepToHolder (nI c) = some (if c % 2 = 0 then -1 else 1) := by
  revert c
  decide
theorem inv_at (hi : aInv a) {p : Nat} (hp : p < aG a 0) : aF a 2 p < aG a 0 := (hi.2.2.2.2.1 p hp).2.1
theorem inv_up (hi : aInv a) (r : Nat) : aUp a r < aG a 0 := inv_at hi (Nat.mod_lt _ (by have := hi.1.1; omega))
theorem inv_lo (hi : aInv a) (r : Nat) : aLo a r < aG a 0 := inv_at hi (Nat.mod_lt _ (by have := hi.1.1; omega))
theorem inv_hold (hi : aInv a) (r c : Nat) : aHold a r c < aG a 0 := by
  unfold aHold
  split
  · exact inv_up hi r
  · exact inv_lo hi r
theorem C_up (h : RepC a f) (hi : aInv a) {r : Nat} (hr : r < aG a 0) : MX3_neighbour f (nI r) (-1) = some (nI (aUp a r)) := by
  have h1 := hi.1
  have h2 := (hi.2.2.2.2.1 r hr).1
  unfold MX3_neighbour
  rw [C_pl h hi hr, Option.bind_some, C_n h, Option.bind_some]
  rw [nI_m1 (by omega)]
  rcases Nat.eq_zero_or_pos (aF a 0 r) with q | q
  · rw [q, if_neg (by decide)]
    rw [Option.bind_some, C_at h hi (show aG a 0 - 1 < aG a 0 by omega), Option.bind_some]
    unfold aUp
    rw [q, show (0 + aG a 0 - 1) % aG a 0 = aG a 0 - 1 by rw [Nat.zero_add]; exact Nat.mod_eq_of_lt (by omega)]
  · obtain ⟨p, hp⟩ : ∃ p, aF a 0 r = p + 1 := ⟨aF a 0 r - 1, by omega⟩
    rw [hp, pk_m1, if_pos (nI_pos' (by omega)), if_pos (nI_le (by omega) (by omega))]
    rw [Option.bind_some, C_at h hi (show p < aG a 0 by omega), Option.bind_some]
    unfold aUp
    rw [hp, show (p + 1 + aG a 0 - 1) % aG a 0 = p by rw [show p + 1 + aG a 0 - 1 = p + aG a 0 by omega, Nat.add_mod_right]; exact Nat.mod_eq_of_lt (by omega)]
theorem C_lo (h : RepC a f) (hi : aInv a) {r : Nat} (hr : r < aG a 0) : MX3_neighbour f (nI r) 1 = some (nI (aLo a r)) := by
  have h1 := hi.1
  have h2 := (hi.2.2.2.2.1 r hr).1
  unfold MX3_neighbour
  rw [C_pl h hi hr, Option.bind_some, C_n h, Option.bind_some]
  rw [nI_m1 (by omega), nI_1, if_pos (nI_pos' (by omega))]
  unfold aLo
  by_cases q : aF a 0 r + 1 ≤ aG a 0 - 1
  · rw [if_pos (nI_le q (by omega))]
    rw [Option.bind_some, C_at h hi (show aF a 0 r + 1 < aG a 0 by omega), Option.bind_some]
    rw [Nat.mod_eq_of_lt (show aF a 0 r + 1 < aG a 0 by omega)]
  · rw [if_neg (nI_ge (by omega) (by omega))]
    rw [Option.bind_some, show (0 : Int32) = nI 0 from rfl, C_at h hi (show 0 < aG a 0 by omega), Option.bind_some]
    rw [show aF a 0 r + 1 = aG a 0 by omega, Nat.mod_self]
theorem C_hold (h : RepC a f) (hi : aInv a) {r : Nat} (c : Nat) (hr : r < aG a 0) : MX3_neighbour f (nI r) (if c % 2 = 0 then -1 else 1) = some (nI (aHold a r c)) := by
  unfold aHold
  split
  · exact C_up h hi hr
  · exact C_lo h hi hr
/-- the fresh echo of a cell, in one number, or -1 -/
def frE (o : Option Ech) : Int32 := match o with
  | some e => pkE e
  | none => -1
theorem drop_cons {α : Type} {L : List α} {k : Nat} {e : α} {T : List α} (h : L.drop k = e :: T) : L[k]? = some e ∧ L.drop (k + 1) = T ∧ k < L.length := by
  have h1 : L[k]? = some e := by
    have := List.getElem?_drop (xs := L) (i := k) (j := 0)
    rw [h] at this
    simpa using this.symm
  refine ⟨h1, ?_, (List.getElem?_eq_some_iff.mp h1).1⟩
  rw [← List.drop_drop, h]
  rfl
theorem drop_nil {α : Type} {L : List α} {k : Nat} (h : L.drop k = []) : L.length ≤ k := List.drop_eq_nil_iff.mp h
theorem C_fresh (h : RepC a f) (hi : aInv a) {r c : Nat} (hr : r < aG a 0) (hc : c < 8) : MX3_freshEcho f (nI r) (nI c) = some (frE (aHeard a r c)) := by
  have h1 := hi.1
  have hb := inv_hold hi r c
  unfold MX3_freshEcho
  rw [C_step hc, Option.bind_some, C_hold h hi c hr, Option.bind_some, C_ec h hi hb, Option.bind_some, show (0 : Int32) = nI 0 from rfl]
  have hl := inv_len hi hb
  have key : ∀ (T : List Ech) (k F : Nat), (aM a (aHold a r c)).drop k = T → k ≤ 16 → T.length < F → (itr (SX3_freshEcho_33 (nI (aM a (aHold a r c)).length) f (nI (aHold a r c)) (nI r) (nI c)) F (nI k)).bind (cnt fun _ => some (-1)) = some (frE ((aFind T (8 * r + c)).filter (fun e => !aOld a e))) := by
    intro T
    induction T with
    | nil =>
      intro k F hk hk2 hF
      obtain ⟨F', rfl⟩ : ∃ F', F = F' + 1 := ⟨F - 1, by omega⟩
      have h0 : SX3_freshEcho_33 (nI (aM a (aHold a r c)).length) f (nI (aHold a r c)) (nI r) (nI c) (nI k) = some (.inr (.inl ())) := by
        unfold SX3_freshEcho_33
        rw [if_pos (nI_le (drop_nil hk) (by omega))]
      rw [itr_r h0]
      rfl
    | cons e T ih =>
      intro k F hk hk2 hF
      obtain ⟨F', rfl⟩ : ∃ F', F = F' + 1 := ⟨F - 1, by omega⟩
      obtain ⟨g1, g2, g3⟩ := drop_cons hk
      obtain ⟨g4, g5⟩ := inv_ok hi hb (List.mem_of_getElem? g1)
      have hstep : SX3_freshEcho_33 (nI (aM a (aHold a r c)).length) f (nI (aHold a r c)) (nI r) (nI c) (nI k) = if e.1 = r * 8 + c then (if aOld a e = true then some (.inr (.inr (-1))) else some (.inr (.inr (pkE e)))) else some (.inl (nI (k + 1))) := by
        unfold SX3_freshEcho_33
        rw [if_neg (nI_ge g3 (by omega))]
        rw [C_mg h hi hb g1, Option.bind_some, own_pk g4, Option.bind_some, ix_8, nI_1]
        have := g4.1
        by_cases q : e.1 = r * 8 + c
        · rw [if_pos (by rw [q]), if_pos q, C_faded h hi g4 g5, Option.bind_some]
          by_cases q2 : aOld a e = true
          · rw [if_pos q2, if_pos q2]; rfl
          · rw [if_neg q2, if_neg q2]; rfl
        · rw [if_neg (fun z => q ((nI_eq (by omega) (by omega)).mp z)), if_neg q]
      unfold aFind
      rw [List.find?_cons]
      by_cases q : e.1 = r * 8 + c
      · rw [show decide (e.1 = 8 * r + c) = true from decide_eq_true (by omega)]
        rw [if_pos q] at hstep
        by_cases q2 : aOld a e = true
        · rw [if_pos q2] at hstep
          rw [itr_r hstep]
          show some (-1) = some (frE (Option.filter _ (some e)))
          simp [Option.filter, q2, frE]
        · rw [if_neg q2] at hstep
          rw [itr_r hstep]
          show some (pkE e) = some (frE (Option.filter _ (some e)))
          simp [Option.filter, q2, frE]
      · rw [show decide (e.1 = 8 * r + c) = false from decide_eq_false (by omega)]
        rw [if_neg q] at hstep
        rw [itr_l hstep]
        exact ih (k + 1) F' g2 (by omega) (by simp at hF; omega)
  exact key _ 0 FU List.drop_zero (by omega) (FU_lt (by omega))
theorem heard_ok (hi : aInv a) {r c : Nat} {e : Ech} (he : aHeard a r c = some e) : okE e ∧ e.2.2 ≤ aG a 1 ∧ aG a 1 - e.2.2 ≤ aG a 3 := by
  unfold aHeard at he
  obtain ⟨h1, h2⟩ := Option.filter_eq_some_iff.mp he
  unfold aFind at h1
  obtain ⟨h3, h4⟩ := inv_ok hi (inv_hold hi r c) (List.mem_of_find?_eq_some h1)
  refine ⟨h3, h4, ?_⟩
  unfold aOld at h2
  simpa using h2
theorem inv_V (hi : aInv a) {r c : Nat} (hr : r < aG a 0) (hc : c < 8) : aV a r c ≤ 1000 := hi.2.2.2.2.2.1 r c hr hc
theorem V_eq {v w : Nat} (hv : v ≤ 999) (hw : w ≤ 1000) : nI v = nI w - 1 ↔ v + 1 = w := by
  rcases Nat.eq_zero_or_pos w with q | q
  · subst q
    rw [m1_of0]
    exact ⟨fun z => absurd z (m1_ne _ (by omega)), fun z => by omega⟩
  · rw [nI_m1 q, nI_eq (by omega) (by omega)]
    omega
theorem C_back (h : RepC a f) (hi : aInv a) {r : Nat} (hr : r < aG a 0) : MX3_comingBack f (nI r) = some (nI (aBack a r)) := by
  unfold MX3_comingBack
  have hs : ∀ k, k < 8 → SX3_comingBack_4 f (nI r) (nI (sm (fun c => b1 (decide (0 < aV a r c) && decide (aHv a r c = aV a r c))) k), nI k) = some (.inl (nI (sm (fun c => b1 (decide (0 < aV a r c) && decide (aHv a r c = aV a r c))) (k + 1)), nI (k + 1))) := by
    intro k hk
    unfold SX3_comingBack_4
    dsimp only
    rw [if_neg (show ¬ (8 : Int32) ≤ nI k from nI_ge (b := 8) hk (by decide))]
    rw [C_fresh h hi hr hk, Option.bind_some, nI_1]
    have hV := inv_V hi hr hk
    cases q : aHeard a r k with
    | none =>
      rw [show frE none = -1 from rfl, if_pos rfl]
      have : aHv a r k = 0 := by unfold aHv; rw [q]
      rw [show sm (fun c => b1 (decide (0 < aV a r c) && decide (aHv a r c = aV a r c))) (k + 1) = sm (fun c => b1 (decide (0 < aV a r c) && decide (aHv a r c = aV a r c))) k from by
        show sm _ k + b1 (decide (0 < aV a r k) && decide (aHv a r k = aV a r k)) = _
        rw [this]
        rcases Nat.eq_zero_or_pos (aV a r k) with z | z
        · rw [z]; rfl
        · rw [decide_eq_false (show ¬ 0 = aV a r k by omega), Bool.and_false]; rfl]
    | some e =>
      obtain ⟨g1, g2, g3⟩ := heard_ok hi q
      have hv : aHv a r k = e.2.1 + 1 := by unfold aHv; rw [q]
      rw [show frE (some e) = pkE e from rfl, if_neg (m1_ne_pk g1)]
      rw [val_pk g1, Option.bind_some, C_val h hi hr hk, Option.bind_some]
      show _ = some (Sum.inl (nI (sm _ k + b1 (decide (0 < aV a r k) && decide (aHv a r k = aV a r k))), nI (k + 1)))
      rw [hv]
      by_cases z : e.2.1 + 1 = aV a r k
      · rw [if_pos ((V_eq g1.2.1 hV).mpr z), decide_eq_true z, decide_eq_true (show 0 < aV a r k by omega), nI_1]; rfl
      · rw [if_neg (fun y => z ((V_eq g1.2.1 hV).mp y)), decide_eq_false z, Bool.and_false]; rfl
  rw [show ((0 : Int32), (0 : Int32)) = (nI (sm (fun c => b1 (decide (0 < aV a r c) && decide (aHv a r c = aV a r c))) 0), nI 0) from rfl, itr_for (step := SX3_comingBack_4 f (nI r)) 8 (fun k => (nI (sm (fun c => b1 (decide (0 < aV a r c) && decide (aHv a r c = aV a r c))) k), nI k)) (nI (aBack a r)) hs (by unfold SX3_comingBack_4; dsimp only; rw [if_pos (by decide)]; rfl) FU (FU_lt (by decide))]
  rfl
end CLS
