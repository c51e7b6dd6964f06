/-! the class: mending -/
section MEND
variable {a : Abs} {f : Nat → Int32}
/-- a row of which the first k cells are mended -/
def aMendN (a : Abs) (r k : Nat) : Abs := sC (sWr (sVr a r (fun c => if c < k then aHv a r c else aV a r c)) r (fun c => if c < k then (if 0 < aHv a r c ∧ ¬ aHv a r c = aV a r c then 1 else 0) else aW a r c)) 8 (aC a 8 + nI (sm (fun c => b1 (decide (0 < aHv a r c) && !decide (aHv a r c = aV a r c))) k))
theorem hv_le (hi : aInv a) (r c : Nat) : aHv a r c ≤ 1000 := by
  unfold aHv
  cases q : aHeard a r c with
  | none => exact Nat.zero_le _
  | some e => exact Nat.succ_le_succ (heard_ok hi q).1.2.1
theorem mendN_inv (hi : aInv a) (r k : Nat) : aInv (aMendN a r k) := by
  obtain ⟨g1, g2, g3, g4, g5, g6, g7, g8⟩ := id hi
  refine ⟨g1, g2, g3, g4, g5, fun p c hp hc => ?_, g7, g8⟩
  show (if p = r then (if c < k then aHv a r c else aV a r c) else aV a p c) ≤ 1000
  by_cases z : p = r
  · rw [if_pos z]
    split
    · exact hv_le hi r c
    · rw [← z]; exact g6 p c hp hc
  · rw [if_neg z]
    exact g6 p c hp hc
theorem mendN_8 (a : Abs) (r : Nat) (f : Nat → Int32) (h : RepC (aMendN a r 8) f) : RepC (aMendCells a r) f := by
  refine RepC_congr h (fun _ => rfl) (fun _ => rfl) (fun _ _ => rfl) (fun _ _ => rfl) (fun p c hc => ?_) (fun p c hc => ?_) (fun _ => rfl)
  · show (if p = r then aHv a r c else aV a p c) = (if p = r then (if c < 8 then aHv a r c else aV a r c) else aV a p c)
    rw [if_pos hc]
  · show (if p = r then (if 0 < aHv a r c ∧ ¬ aHv a r c = aV a r c then 1 else 0) else aW a p c) = (if p = r then (if c < 8 then (if 0 < aHv a r c ∧ ¬ aHv a r c = aV a r c then 1 else 0) else aW a r c) else aW a p c)
    rw [if_pos hc]
theorem C_mendCell (h : RepC a f) (hn : aG a 0 ≤ 9) {r c : Nat} (hr : r < aG a 0) (hc : c < 8) (v : Nat) (hv : v ≤ 1000) (hV : aV a r c ≤ 1000) :
    ∃ g, MX3_mendCell f (nI (r * 8 + c)) (nI v - 1) = some g ∧ RepC (sC (sW (sV a r c v) r c (if 0 < v ∧ ¬ v = aV a r c then 1 else 0)) 8 (aC a 8 + nI (b1 (decide (0 < v) && !decide (v = aV a r c))))) g := by
  unfold MX3_mendCell
  have hix : ∀ k : Nat, nI k + nI (r * 8 + c) = nI (k + r * 8 + c) := fun k => by rw [nI_add, Nat.add_assoc]
  rw [show (64 : Int32) = nI 64 from rfl, show (136 : Int32) = nI 136 from rfl, show (8 : Int32) = nI 8 from rfl, hix, hix, getN f (by omega), (h.2.2.2.1 r c hr hc).1, Option.bind_some]
  have hput : ∀ w : Int32, ∃ g, (MX3_put f (nI (64 + r * 8 + c)) (nI v - 1)).bind (fun v35 => (MX3_put v35 (nI (136 + r * 8 + c)) w).bind fun v38 => (MX3_add v38 (nI 8) w).bind fun v41 => some v41) = some g ∧ RepC (sC (sW (sV a r c v) r c w) 8 (aC a 8 + w)) g := by
    intro w
    rw [putN f _ (by omega), Option.bind_some, putN _ _ (by omega), Option.bind_some, addN _ _ (by decide), Option.bind_some]
    have k1 := rC_V h hn v hr hc
    have k2 := rC_W k1 hn (r := r) (c := c) w hr hc
    have k3 := rC_C k2 hn (j := 8) (aC a 8 + w) (by decide) (by decide)
    have h4 : (upd (upd f (64 + r * 8 + c) (nI v - 1)) (136 + r * 8 + c) w) 8 = aC a 8 := k2.2.1 8 (by decide) (by decide)
    rw [h4]
    exact ⟨_, rfl, k3⟩
  rcases Nat.eq_zero_or_pos v with z | z
  · subst z
    rw [m1_of0, if_pos rfl, Option.bind_some, if_neg (by omega), decide_eq_false (by omega), Bool.false_and]
    exact hput 0
  · rw [if_neg (by rw [nI_m1 z]; exact m1_ne _ (by omega)), decide_eq_true z, Bool.true_and]
    by_cases y : v = aV a r c
    · rw [if_pos (by rw [y]), Option.bind_some, if_neg (fun q => q.2 y), decide_eq_true y]
      exact hput 0
    · have hne : ¬ nI v - 1 = nI (aV a r c) - 1 := by
        intro q
        rw [nI_m1 z] at q
        exact y (by have := (V_eq (by omega) hV).mp q; omega)
      rw [if_neg hne, if_pos ⟨z, y⟩, decide_eq_false y]
      obtain ⟨g, p1, p2⟩ := hput 1
      refine ⟨g, ?_, p2⟩
      rw [putN f _ (by omega), Option.bind_some, putN _ _ (by omega), Option.bind_some, addN _ _ (by decide), Option.bind_some] at p1 ⊢
      exact p1
theorem lay_inv_up (hi : aInv a) (r : Nat) : aInv (aLayRow a (aUp a r)).2 := layR_inv hi (inv_up hi r)
theorem lives_inv (hi : aInv a) {r : Nat} : aInv (sF a 1 r 1) := by
  obtain ⟨g1, g2, g3, g4, g5, g6, g7, g8⟩ := hi
  refine ⟨g1, g2, g3, g4, fun p hp => ?_, g6, g7, g8⟩
  obtain ⟨e1, e2, e3, e4, e5, e6, e7⟩ := g5 p hp
  rw [aF_o a r p 1 (i := 1) (j := 0) (by decide), aF_o a r p 1 (i := 1) (j := 2) (by decide), aF_o a r _ 1 (i := 1) (j := 2) (by decide), aF_o a r _ 1 (i := 1) (j := 0) (by decide)]
  refine ⟨e1, e2, e3, e4, ?_, e6, fun q => ?_⟩
  · by_cases z : p = r
    · subst z; rw [aF_s]; exact Nat.le_refl _
    · rw [aF_r _ _ _ z]; exact e5
  · by_cases z : p = r
    · subst z; rw [aF_s] at q; omega
    · rw [aF_r _ _ _ z] at q; exact e7 q
theorem mendC_inv (hi : aInv a) (r : Nat) : aInv (aMendCells a r) := by
  obtain ⟨g1, g2, g3, g4, g5, g6, g7, g8⟩ := id hi
  refine ⟨g1, g2, g3, g4, g5, fun p c hp hc => ?_, g7, g8⟩
  show (if p = r then aHv a r c else aV a p c) ≤ 1000
  by_cases z : p = r
  · rw [if_pos z]; exact hv_le hi r c
  · rw [if_neg z]; exact g6 p c hp hc
theorem C_mend (h : RepC a f) (hi : aInv a) {r : Nat} (hr : r < aG a 0) (hl : aF a 1 r = 0) : ∃ g, MX3_mendRow f (nI r) = some (nI (aMend a r).1, g) ∧ RepC (aMend a r).2 g := by
  have hn := hi.1
  unfold MX3_mendRow
  rcases C_hasRow h hi (nI r) with ⟨-, q⟩ | ⟨r2, e1, e2, e3⟩
  · exact absurd ⟨r, hr, rfl⟩ q
  rw [e3, Option.bind_some, if_neg (by decide), C_lives h hi hr, if_neg (by omega), Option.bind_some, if_pos rfl, C_back h hi hr, Option.bind_some]
  obtain ⟨g, hg, q1⟩ := itr_gen (step := SX3_mendRow_30 (nI r)) 8
    (fun k s => s.1 = nI k ∧ RepC (aMendN a r k) s.2)
    (fun g => RepC (aMendN a r 8) g) (by
      rintro k ⟨x, g⟩ hk ⟨q1, q2⟩
      dsimp only at q1 q2
      subst q1
      unfold SX3_mendRow_30
      dsimp only
      rcases Nat.lt_or_ge k 8 with z | z
      · left
        refine ⟨z, ?_⟩
        have hik := mendN_inv hi r k
        have hfr : MX3_freshEcho g (nI r) (nI k) = some (frE (aHeard a r k)) := C_fresh q2 hik hr z
        rw [if_neg (show ¬ (8 : Int32) ≤ nI k from nI_ge (b := 8) z (by decide)), hfr, Option.bind_some, ix_8, nI_1]
        have hVk : aV (aMendN a r k) r k = aV a r k := by
          show (if r = r then (if k < k then aHv a r k else aV a r k) else aV a r k) = _
          rw [if_pos rfl, if_neg (Nat.lt_irrefl k)]
        obtain ⟨g', p1, p2⟩ := C_mendCell q2 hn.2 (r := r) (c := k) hr z (aHv a r k) (hv_le hi r k) (by rw [hVk]; exact inv_V hi hr z)
        rw [hVk] at p2
        have hnext : RepC (aMendN a r (k + 1)) g' := by
          refine RepC_congr p2 (fun _ => rfl) (fun i => ?_) (fun _ _ => rfl) (fun _ _ => rfl) (fun p c hc => ?_) (fun p c hc => ?_) (fun _ => rfl)
          · show up1 (aC a) 8 _ i = up1 (up1 (aC a) 8 _) 8 _ i
            by_cases y : i = 8
            · subst y
              rw [up1_s, up1_s]
              show aC a 8 + nI (sm _ k + b1 (decide (0 < aHv a r k) && !decide (aHv a r k = aV a r k))) = up1 (aC a) 8 (aC a 8 + _) 8 + _
              rw [up1_s, ← nI_add, Int32.add_assoc]
            · rw [up1_n _ _ y, up1_n _ _ y, up1_n _ _ y]
          · show (if p = r then (if c < k + 1 then aHv a r c else aV a r c) else aV a p c) = up2 _ r k (aHv a r k) p c
            by_cases zz : p = r ∧ c = k
            · obtain ⟨rfl, rfl⟩ := zz
              rw [up2_s, if_pos rfl, if_pos (by omega)]
            · rw [up2_n _ _ zz]
              show _ = (if p = r then (if c < k then aHv a r c else aV a r c) else aV a p c)
              by_cases z1 : p = r
              · rw [if_pos z1, if_pos z1]
                by_cases z3 : c < k
                · rw [if_pos z3, if_pos (by omega)]
                · rw [if_neg z3, if_neg (fun y => zz ⟨z1, by omega⟩)]
              · rw [if_neg z1, if_neg z1]
          · show (if p = r then (if c < k + 1 then (if 0 < aHv a r c ∧ ¬ aHv a r c = aV a r c then 1 else 0) else aW a r c) else aW a p c) = up2 _ r k (if 0 < aHv a r k ∧ ¬ aHv a r k = aV a r k then 1 else 0) p c
            by_cases zz : p = r ∧ c = k
            · obtain ⟨rfl, rfl⟩ := zz
              rw [up2_s, if_pos rfl, if_pos (by omega)]
            · rw [up2_n _ _ zz]
              show _ = (if p = r then (if c < k then (if 0 < aHv a r c ∧ ¬ aHv a r c = aV a r c then 1 else 0) else aW a r c) else aW a p c)
              by_cases z1 : p = r
              · rw [if_pos z1, if_pos z1]
                by_cases z3 : c < k
                · rw [if_pos z3, if_pos (show c < k + 1 by omega)]
                · rw [if_neg z3, if_neg (fun y => zz ⟨z1, by omega⟩)]
              · rw [if_neg z1, if_neg z1]
        cases qh : aHeard a r k with
        | none =>
          have hv0 : aHv a r k = 0 := by unfold aHv; rw [qh]
          rw [show frE none = -1 from rfl, if_pos rfl]
          rw [hv0, m1_of0] at p1
          rw [p1, Option.bind_some]
          exact ⟨_, rfl, rfl, hnext⟩
        | some e =>
          obtain ⟨k1, k2, k3⟩ := heard_ok hi qh
          have hv0 : aHv a r k = e.2.1 + 1 := by unfold aHv; rw [qh]
          rw [show frE (some e) = pkE e from rfl, if_neg (m1_ne_pk k1), val_pk k1, Option.bind_some]
          rw [hv0, nI_m1 (by omega), Nat.add_sub_cancel] at p1
          rw [p1, Option.bind_some]
          exact ⟨_, rfl, rfl, hnext⟩
      · right
        have : k = 8 := by omega
        subst this
        rw [if_pos (by decide)]
        exact ⟨_, rfl, q2⟩) FU (0, f) (FU_lt (by decide)) ⟨rfl, RepC_congr h (fun _ => rfl) (fun i => by
          show up1 (aC a) 8 (aC a 8 + nI 0) i = aC a i
          by_cases y : i = 8
          · subst y; rw [up1_s]; exact Int32.add_zero _
          · rw [up1_n _ _ y]) (fun _ _ => rfl) (fun _ _ => rfl) (fun p c hc => by
          show (if p = r then (if c < 0 then aHv a r c else aV a r c) else aV a p c) = aV a p c
          rw [if_neg (Nat.not_lt_zero c)]
          split
          · next z => rw [z]
          · rfl) (fun p c hc => by
          show (if p = r then (if c < 0 then _ else aW a r c) else aW a p c) = aW a p c
          rw [if_neg (Nat.not_lt_zero c)]
          split
          · next z => rw [z]
          · rfl) (fun _ => rfl)⟩
  have q1 := mendN_8 a r g q1
  rw [hg, Option.bind_some, show (28 : Int32) = nI 28 from rfl, ix_a, putN g _ (by omega), Option.bind_some]
  have k1 := rC_lv q1 hn.2 (r := r) 1 hr
  have hi1 : aInv (sF (aMendCells a r) 1 r 1) := lives_inv (mendC_inv hi r)
  have hU : aUp (sF (aMendCells a r) 1 r 1) r = aUp a r := aUp_congr rfl (fun q => aF_o _ _ _ _ (by decide)) (fun q => aF_o _ _ _ _ (by decide)) r
  have hL : aLo (sF (aMendCells a r) 1 r 1) r = aLo a r := aLo_congr rfl (fun q => aF_o _ _ _ _ (by decide)) (fun q => aF_o _ _ _ _ (by decide)) r
  have s1 : MX3_neighbour (upd g (28 + r) (nI 1)) (nI r) (-1) = some (nI (aUp a r)) := by
    have := C_up k1 hi1 (r := r) hr
    rw [hU] at this
    exact this
  rw [show (1 : Int32) = nI 1 from rfl] at *
  rw [s1, Option.bind_some]
  obtain ⟨g2, p1, p2⟩ := C_layRow k1 hi1 (r := aUp a r) (inv_up hi r)
  have hi2 : aInv (aLayRow (sF (aMendCells a r) 1 r 1) (aUp a r)).2 := layR_inv hi1 (inv_up hi r)
  rw [p1, Option.bind_some]
  have hG2 : aG (aLayRow (sF (aMendCells a r) 1 r 1) (aUp a r)).2 0 = aG a 0 := by rw [layR_G]; rfl
  have s2 : MX3_neighbour g2 (nI r) (nI 1) = some (nI (aLo a r)) := by
    have := C_lo p2 hi2 (r := r) (by rw [hG2]; exact hr)
    rw [show aLo (aLayRow (sF (aMendCells a r) 1 r 1) (aUp a r)).2 r = aLo a r from (aLo_congr (by rw [layR_G]) (fun q => by rw [layR_F]) (fun q => by rw [layR_F]) r).trans hL] at this
    exact this
  dsimp only
  rw [s2, Option.bind_some]
  obtain ⟨g3, p3, p4⟩ := C_layRow p2 hi2 (r := aLo a r) (by rw [hG2]; exact inv_lo hi r)
  have hi3 := layR_inv hi2 (r := aLo a r) (by rw [hG2]; exact inv_lo hi r)
  have hG3 : aG (aLayRow (aLayRow (sF (aMendCells a r) 1 r 1) (aUp a r)).2 (aLo a r)).2 0 = aG a 0 := by rw [layR_G, hG2]
  rw [p3, Option.bind_some]
  dsimp only
  obtain ⟨g4, p5, p6⟩ := C_layRow p4 hi3 (r := r) (by rw [hG3]; exact hr)
  rw [p5, Option.bind_some]
  dsimp only
  have hG4 : aG (aLayRow (aLayRow (aLayRow (sF (aMendCells a r) 1 r 1) (aUp a r)).2 (aLo a r)).2 r).2 0 ≤ 9 := by rw [layR_G, hG3]; exact hn.2
  rw [show (6 : Int32) = nI 6 from rfl, show (7 : Int32) = nI 7 from rfl, addN _ _ (by decide), Option.bind_some, addN _ _ (by decide), Option.bind_some]
  have k5 := rC_C p6 hG4 (j := 6) (aC (aLayRow (aLayRow (aLayRow (sF (aMendCells a r) 1 r 1) (aUp a r)).2 (aLo a r)).2 r).2 6 + 1) (by decide) (by decide)
  have k6 := rC_C k5 hG4 (j := 7) (aC (aLayRow (aLayRow (aLayRow (sF (aMendCells a r) 1 r 1) (aUp a r)).2 (aLo a r)).2 r).2 7 + nI (aBack a r)) (by decide) (by decide)
  rw [p6.2.1 6 (by decide) (by decide)]
  have h7 : (upd g4 6 (aC (aLayRow (aLayRow (aLayRow (sF (aMendCells a r) 1 r 1) (aUp a r)).2 (aLo a r)).2 r).2 6 + nI 1)) 7 = aC (aLayRow (aLayRow (aLayRow (sF (aMendCells a r) 1 r 1) (aUp a r)).2 (aLo a r)).2 r).2 7 := by
    rw [pk_un (by decide)]
    exact p6.2.1 7 (by decide) (by decide)
  rw [h7]
  exact ⟨_, rfl, k6⟩
end MEND
