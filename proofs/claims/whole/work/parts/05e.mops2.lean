/-! laying doesn't look at the counters 6 and 7 -/
theorem up1_comm {α : Type} (f : Nat → α) {i j : Nat} (x y : α) (h : ¬ i = j) : up1 (up1 f i x) j y = up1 (up1 f j y) i x := by
  funext q
  unfold up1
  by_cases z1 : q = j
  · by_cases z2 : q = i
    · exact absurd (z2.symm.trans z1) h
    · rw [if_pos z1, if_neg z2, if_pos z1]
  · rw [if_neg z1, if_neg z1]
theorem lay1_comm (c : Abs) (r k b i : Nat) (x : Int32) (h : ¬ i = 9) : aLay1 (sC c i x) r k b = ((aLay1 c r k b).1, sC (aLay1 c r k b).2 i x) := by
  unfold aLay1
  by_cases q : aV c r k = 0 ∨ aF c 1 b = 0
  · rw [if_pos q, if_pos (show aV (sC c i x) r k = 0 ∨ aF (sC c i x) 1 b = 0 from q)]
  · rw [if_neg q, if_neg (show ¬ (aV (sC c i x) r k = 0 ∨ aF (sC c i x) 1 b = 0) from q)]
    refine Prod.ext rfl ?_
    show sC (sD (sM (sC c i x) b _) 3 b _) 9 (aC (sC c i x) 9 + 1) = sC (sC (sD (sM c b _) 3 b _) 9 (aC c 9 + 1)) i x
    rw [show aC (sC c i x) 9 = aC c 9 from aC_r _ _ (fun w => h w.symm)]
    unfold sC
    refine Prod.ext rfl (Prod.ext ?_ rfl)
    exact up1_comm _ _ _ h
theorem layN_comm (c : Abs) (r i : Nat) (x : Int32) (h : ¬ i = 9) : ∀ k, aLayN (sC c i x) r k = ((aLayN c r k).1, sC (aLayN c r k).2 i x)
  | 0 => rfl
  | k + 1 => by
    show ((aLayN (sC c i x) r k).1 + (aLay1 (aLayN (sC c i x) r k).2 r k (aHold (sC c i x) r k)).1, (aLay1 (aLayN (sC c i x) r k).2 r k (aHold (sC c i x) r k)).2) = _
    rw [layN_comm c r i x h k]
    dsimp only
    rw [lay1_comm _ _ _ _ _ _ h]
    rfl
theorem layR_comm (c : Abs) (r i : Nat) (x : Int32) (h : ¬ i = 9) : aLayRow (sC c i x) r = ((aLayRow c r).1, sC (aLayRow c r).2 i x) := by
  unfold aLayRow
  by_cases q : aF c 1 r = 1
  · rw [if_pos q, if_pos (show aF (sC c i x) 1 r = 1 from q), layN_comm _ _ _ _ h]
  · rw [if_neg q, if_neg (show ¬ aF (sC c i x) 1 r = 1 from q)]
theorem lay_comm (c : Abs) (q : Nat) (x y : Int32) : aLayRow (sC (sC c 6 x) 7 y) q = ((aLayRow c q).1, sC (sC (aLayRow c q).2 6 x) 7 y) := by
  rw [layR_comm _ _ _ _ (by decide), layR_comm _ _ _ _ (by decide)]
theorem lay1_C (c : Abs) (r k b i : Nat) (h : ¬ i = 9) : aC (aLay1 c r k b).2 i = aC c i := by
  unfold aLay1
  split
  · rfl
  · exact aC_r _ _ h
theorem layN_C (c : Abs) (r i : Nat) (h : ¬ i = 9) : ∀ k, aC (aLayN c r k).2 i = aC c i
  | 0 => rfl
  | k + 1 => (lay1_C _ _ _ _ _ h).trans (layN_C c r i h k)
theorem layR_C (c : Abs) (r i : Nat) (h : ¬ i = 9) : aC (aLayRow c r).2 i = aC c i := by
  unfold aLayRow
  split
  · exact layN_C c r i h 8
  · rfl
theorem lay_C6 (c : Abs) (r : Nat) : aC (aLayRow c r).2 6 = aC c 6 := layR_C c r 6 (by decide)
theorem lay_C7 (c : Abs) (r : Nat) : aC (aLayRow c r).2 7 = aC c 7 := layR_C c r 7 (by decide)
/-! the reference: mending, places, settings, beginning -/
section MOPS2
variable {a : Abs} {s : Nat → Int32}
theorem M_mend (h : RepN a s) (hw : RepW a s) (hi : aInv a) {r : Nat} (hr : r < aG a 0) (hl : aF a 1 r = 0) : ∃ g, MX6_goMend s (nI r) = some (nI (aMend a r).1, g) ∧ RepN (aMend a r).2 g ∧ RepW (aMend a r).2 g := by
  have hn := hi.1
  unfold MX6_goMend
  rw [M_back h hw hi hr, Option.bind_some, show (6 : Int32) = nI 6 from rfl, show (7 : Int32) = nI 7 from rfl, show (8 : Int32) = nI 8 from rfl, ldM s (by decide), Option.bind_some, stM s _ (by decide), Option.bind_some, ldM _ (by decide), Option.bind_some, stM _ _ (by decide), Option.bind_some, ldM _ (by decide), Option.bind_some]
  have k1 := rN_C h hn.2 (len16 hi) (j := 6) (aC a 6 + 1) (by decide) (by decide)
  have k2 := rN_C k1 hn.2 (len16 hi) (j := 7) (aC a 7 + nI (aBack a r)) (by decide) (by decide)
  have k3 := rN_C k2 hn.2 (len16 hi) (j := 8) (aC a 8 + nI (aWrongs a r)) (by decide) (by decide)
  have e6 : s 6 = aC a 6 := h.2.1 6 (by decide) (by decide)
  have e7 : (upd s 6 (aC a 6 + 1)) 7 = aC a 7 := by rw [pk_un (by decide)]; exact h.2.1 7 (by decide) (by decide)
  have e8 : (upd (upd s 6 (aC a 6 + 1)) 7 (aC a 7 + nI (aBack a r))) 8 = aC a 8 := by rw [pk_un (by decide), pk_un (by decide)]; exact h.2.1 8 (by decide) (by decide)
  rw [e6, e7, e8]
  have hw2 : RepW a (upd (upd s 6 (aC a 6 + 1)) 7 (aC a 7 + nI (aBack a r))) := rW_o hw hn.2 rfl (fun _ => rfl) rfl rfl (fun p j _ _ _ => by rw [pk_un (by omega), pk_un (by omega)])
  have hwr : MX6_wrongs (upd (upd s 6 (aC a 6 + 1)) 7 (aC a 7 + nI (aBack a r))) (nI r) = some (nI (aWrongs a r)) := (M_wrongs k2 hw2 (show aInv (sC (sC a 6 (aC a 6 + 1)) 7 (aC a 7 + nI (aBack a r))) from hi) (r := r) hr hl :)
  rw [hwr, Option.bind_some, stM _ _ (by decide), Option.bind_some]
  -- the state with its counters
  generalize hb0 : sC (sC (sC a 6 (aC a 6 + 1)) 7 (aC a 7 + nI (aBack a r))) 8 (aC a 8 + nI (aWrongs a r)) = b0 at k3
  have hib : aInv b0 := by rw [← hb0]; exact hi
  have bG : aG b0 = aG a := by rw [← hb0]; rfl
  have bF : aF b0 = aF a := by rw [← hb0]; rfl
  have bV : aV b0 = aV a := by rw [← hb0]; rfl
  have bW : aW b0 = aW a := by rw [← hb0]; rfl
  have bM : aM b0 = aM a := by rw [← hb0]; rfl
  have bD : aD b0 = aD a := by rw [← hb0]; rfl
  have bH : ∀ c, aHv b0 r c = aHv a r c := fun c => by rw [← hb0]; rfl
  have hrb : r < aG b0 0 := by rw [bG]; exact hr
  have hw3 : RepW b0 (upd (upd (upd s 6 (aC a 6 + 1)) 7 (aC a 7 + nI (aBack a r))) 8 (aC a 8 + nI (aWrongs a r))) := rW_o hw hn.2 (by rw [bG]) (fun _ => by rw [bF]) bV bW (fun p j _ _ _ => by rw [pk_un (by omega), pk_un (by omega), pk_un (by omega)])
  generalize hs3 : upd (upd (upd s 6 (aC a 6 + 1)) 7 (aC a 7 + nI (aBack a r))) 8 (aC a 8 + nI (aWrongs a r)) = s3 at k3 hw3 ⊢
  obtain ⟨g1, hg1, q1, q2, q3⟩ := itr_gen (step := SX6_goMend_45 (nI r)) 8
    (fun k y => y.1 = nI k ∧ RepN b0 y.2 ∧ (∀ p j, p < aG b0 0 → 5 ≤ j → j < 29 → ¬ p = r → y.2 (10 + 77 * p + j) = s3 (10 + 77 * p + j)) ∧ (∀ c, c < 8 → (c < k → y.2 (10 + 77 * r + (5 + c)) = nI (aHv a r c) ∧ y.2 (10 + 77 * r + (21 + c)) = (if 0 < aHv a r c ∧ ¬ aHv a r c = aV a r c then 1 else 0)) ∧ (k ≤ c → y.2 (10 + 77 * r + (13 + c)) = nI (aV a r c))))
    (fun g => RepN b0 g ∧ (∀ p j, p < aG b0 0 → 5 ≤ j → j < 29 → ¬ p = r → g (10 + 77 * p + j) = s3 (10 + 77 * p + j)) ∧ (∀ c, c < 8 → g (10 + 77 * r + (5 + c)) = nI (aHv a r c) ∧ g (10 + 77 * r + (21 + c)) = (if 0 < aHv a r c ∧ ¬ aHv a r c = aV a r c then 1 else 0))) (by
      rintro k ⟨x, g⟩ hk ⟨q1, q2, q3, q4⟩
      dsimp only at q1 q2 q3 q4
      subst q1
      unfold SX6_goMend_45
      dsimp only
      rcases Nat.lt_or_ge k 8 with z | z
      · left
        refine ⟨z, ?_⟩
        have hH := hv_le hi r k
        have hV := inv_V hi hr z
        have hhd : MX6_heard g (nI r) (nI k) = some (nI (aHv a r k)) := by rw [M_heard q2 hib hrb z, bH]
        have fin : ∀ w : Int32, w = (if 0 < aHv a r k ∧ ¬ aHv a r k = aV a r k then 1 else 0) → ∃ s', ((MX6_lays (upd g (10 + 77 * r + (5 + k)) (nI (aHv a r k))) (nI r) (nI (21 + k)) w).bind fun v91 => (MX6_lays v91 (nI r) (nI (13 + k)) 0).bind fun v94 => some (Sum.inl (nI k + 1, v94))) = (some (Sum.inl s') : Option ((Int32 × (Nat → Int32)) ⊕ (Nat → Int32))) ∧ (s'.1 = nI (k + 1) ∧ RepN b0 s'.2 ∧ (∀ p j, p < aG b0 0 → 5 ≤ j → j < 29 → ¬ p = r → s'.2 (10 + 77 * p + j) = s3 (10 + 77 * p + j)) ∧ (∀ c, c < 8 → (c < k + 1 → s'.2 (10 + 77 * r + (5 + c)) = nI (aHv a r c) ∧ s'.2 (10 + 77 * r + (21 + c)) = (if 0 < aHv a r c ∧ ¬ aHv a r c = aV a r c then 1 else 0)) ∧ (k + 1 ≤ c → s'.2 (10 + 77 * r + (13 + c)) = nI (aV a r c)))) := by
          intro w hwv
          rw [M_lays _ _ (by omega) (by omega), Option.bind_some, M_lays _ _ (by omega) (by omega), Option.bind_some]
          have m1 := rN_cell q2 (by rw [bG]; exact hn.2) (fun q hq => inv_len hib hq) (r := r) (kk := 5 + k) (nI (aHv a r k)) hrb (by omega) (by omega)
          have m2 := rN_cell m1 (by rw [bG]; exact hn.2) (fun q hq => inv_len hib hq) (r := r) (kk := 21 + k) w hrb (by omega) (by omega)
          have m3 := rN_cell m2 (by rw [bG]; exact hn.2) (fun q hq => inv_len hib hq) (r := r) (kk := 13 + k) 0 hrb (by omega) (by omega)
          refine ⟨_, rfl, nI_1 k, m3, fun p j h1 h2 h3 h4 => ?_, fun c hc => ⟨fun hck => ?_, fun hck => ?_⟩⟩
          · dsimp only
            rw [pk_un (ne_row (fun w => h4 w.1) (by omega) (by omega)), pk_un (ne_row (fun w => h4 w.1) (by omega) (by omega)), pk_un (ne_row (fun w => h4 w.1) (by omega) (by omega))]
            exact q3 p j h1 h2 h3 h4
          · dsimp only
            by_cases y : c = k
            · subst y
              refine ⟨?_, ?_⟩
              · rw [pk_un (by omega), pk_un (by omega), pk_us]
              · rw [pk_un (by omega), pk_us]; exact hwv
            · obtain ⟨w1, w2⟩ := (q4 c hc).1 (by omega)
              refine ⟨?_, ?_⟩
              · rw [pk_un (by omega), pk_un (by omega), pk_un (by omega)]; exact w1
              · rw [pk_un (by omega), pk_un (by omega), pk_un (by omega)]; exact w2
          · dsimp only
            rw [pk_un (by omega), pk_un (by omega), pk_un (by omega)]
            exact (q4 c hc).2 (by omega)
        rw [if_neg (show ¬ (8 : Int32) ≤ nI k from nI_ge (b := 8) z (by decide)), hhd, Option.bind_some, show (5 : Int32) = nI 5 from rfl, show (13 : Int32) = nI 13 from rfl, show (21 : Int32) = nI 21 from rfl, ix5, ix5, ix5, M_lays g _ (by omega) (by omega), Option.bind_some]
        by_cases y : aHv a r k = 0
        · rw [if_pos (by rw [y]; decide)]
          exact fin 0 (by rw [if_neg (by omega)])
        · rw [if_neg (nI_nle (by omega) (by omega)), M_of _ (by omega) (by omega), Option.bind_some, pk_un (by omega), (q4 k z).2 (Nat.le_refl _)]
          by_cases y2 : aHv a r k = aV a r k
          · rw [if_pos (by rw [y2])]
            exact fin 0 (by rw [if_neg (fun w => w.2 y2)])
          · rw [if_neg (fun w => y2 ((nI_eq (by omega) (by omega)).mp w))]
            exact fin 1 (by rw [if_pos ⟨by omega, y2⟩])
      · right
        have : k = 8 := by omega
        subst this
        rw [if_pos (by decide)]
        exact ⟨g, rfl, q2, q3, fun c hc => (q4 c hc).1 hc⟩) FU (0, s3) (FU_lt (by decide)) ⟨rfl, k3, fun _ _ _ _ _ _ => rfl, fun c hc => ⟨fun w => absurd w (Nat.not_lt_zero c), fun _ => by
        dsimp only
        rw [(hw3 r c hrb hc).2.1 (by rw [bF]; exact hl), bV]⟩⟩
  rw [hg1, Option.bind_some, show (1 : Int32) = nI 1 from rfl, M_lays g1 _ (by omega) (by decide), Option.bind_some]
  -- the row lives again
  have hA : RepN (sF b0 1 r 1) (upd g1 (10 + 77 * r + 1) (nI 1)) := rN_lv q1 (by rw [bG]; exact hn.2) (fun q hq => inv_len hib hq) (r := r) 1 hrb
  have hA1 : RepN (sC (sC (sF (aMendCells a r) 1 r 1) 6 (aC a 6 + 1)) 7 (aC a 7 + nI (aBack a r))) (upd g1 (10 + 77 * r + 1) (nI 1)) := by
    refine RepN_congr hA (fun i => by rw [show aG (sF b0 1 r 1) = aG b0 from rfl, bG]; rfl) (fun i => ?_) (fun k q => ?_) (fun k q => by rw [show aD (sF b0 1 r 1) = aD b0 from rfl, bD]; rfl) (fun q => by rw [show aM (sF b0 1 r 1) = aM b0 from rfl, bM]; rfl)
    · rw [← hb0]
      show up1 (up1 (up1 (aC a) 8 (aC a 8 + nI (aWrongs a r))) 6 (aC a 6 + 1)) 7 (aC a 7 + nI (aBack a r)) i = up1 (up1 (up1 (aC a) 6 (aC a 6 + 1)) 7 (aC a 7 + nI (aBack a r))) 8 (aC a 8 + nI (aWrongs a r)) i
      unfold up1
      by_cases z6 : i = 6
      · subst z6; simp
      · by_cases z7 : i = 7
        · subst z7; simp
        · by_cases z8 : i = 8
          · subst z8; simp
          · simp [z6, z7, z8]
    · rw [← hb0]
      rfl
  have hW1 : RepW (sC (sC (sF (aMendCells a r) 1 r 1) 6 (aC a 6 + 1)) 7 (aC a 7 + nI (aBack a r))) (upd g1 (10 + 77 * r + 1) (nI 1)) := by
    intro p q hp hq
    have hp : p < aG a 0 := hp
    rw [pk_un (ne_row (by omega) (by omega) (by omega)), pk_un (ne_row (by omega) (by omega) (by omega)), pk_un (ne_row (by omega) (by omega) (by omega))]
    show (g1 (10 + 77 * p + (5 + q)) = if aF (sF a 1 r 1) 1 p = 1 then nI (if p = r then aHv a r q else aV a p q) else 0) ∧ (aF (sF a 1 r 1) 1 p = 0 → g1 (10 + 77 * p + (13 + q)) = nI (if p = r then aHv a r q else aV a p q)) ∧ g1 (10 + 77 * p + (21 + q)) = (if p = r then (if 0 < aHv a r q ∧ ¬ aHv a r q = aV a r q then 1 else 0) else aW a p q)
    by_cases z : p = r
    · subst z
      obtain ⟨w1, w2⟩ := q3 q hq
      rw [aF_s, if_pos rfl, if_pos rfl, if_pos rfl]
      exact ⟨w1, fun w => absurd w (by decide), w2⟩
    · have hp2 : p < aG b0 0 := by rw [bG]; exact hp
      obtain ⟨w1, w2, w3⟩ := hw3 p q hp2 hq
      rw [bF, bV] at w1 w2
      rw [bW] at w3
      rw [aF_r _ _ _ z, if_neg z, if_neg z, q2 p _ hp2 (by omega) (by omega) z, q2 p _ hp2 (by omega) (by omega) z, q2 p _ hp2 (by omega) (by omega) z]
      exact ⟨w1, w2, w3⟩
  generalize hs4 : upd g1 (10 + 77 * r + 1) (nI 1) = s4 at hA1 hW1 ⊢
  -- the three rows are laid anew; the counters 6 and 7 don't matter for that
  have hiA : aInv (sF (aMendCells a r) 1 r 1) := lives_inv (mendC_inv hi r)
  have comm : ∀ (c : Abs) (q : Nat) (x y : Int32), aLayRow (sC (sC c 6 x) 7 y) q = ((aLayRow c q).1, sC (sC (aLayRow c q).2 6 x) 7 y) := fun c q x y => lay_comm c q x y
  have hU : aUp (sC (sC (sF (aMendCells a r) 1 r 1) 6 (aC a 6 + 1)) 7 (aC a 7 + nI (aBack a r))) r = aUp a r := aUp_congr rfl (fun q => aF_o (aMendCells a r) _ _ _ (by decide)) (fun q => aF_o (aMendCells a r) _ _ _ (by decide)) r
  have hL : aLo (sF (aMendCells a r) 1 r 1) r = aLo a r := aLo_congr rfl (fun q => aF_o (aMendCells a r) _ _ _ (by decide)) (fun q => aF_o (aMendCells a r) _ _ _ (by decide)) r
  generalize hX : aC a 6 + 1 = x6 at *
  generalize hY : aC a 7 + nI (aBack a r) = x7 at *
  have hiA' : aInv (sC (sC (sF (aMendCells a r) 1 r 1) 6 x6) 7 x7) := hiA
  rw [M_up hA1 hiA' hr, hU, Option.bind_some]
  -- one step: a neighbour laid anew if it lives
  have stepL : ∀ (c : Abs) (g : Nat → Int32) (q : Nat), RepN c g → RepW c g → aInv c → q < aG c 0 → ∀ (N : (Nat → Int32) → Int32 → Option Int32), N g (nI r) = some (nI q) → ∃ j : Int32 × (Nat → Int32), (MX6_lives g (nI q)).bind (fun v41 => ((if v41 = 0 then some (0, g) else (N g (nI r)).bind fun v73 => (MX6_laysRow g v73).bind fun v76 => some (v76.1, v76.2)) : Option (Int32 × (Nat → Int32)))) = some j ∧ RepN (aLayRow c q).2 j.2 ∧ RepW (aLayRow c q).2 j.2 := by
    intro c g q m1 m2 m3 m4 N m5
    rcases M_lives_b m1 m3 m4 with ⟨e1, e2⟩ | ⟨e1, e2⟩
    · obtain ⟨g', p1, p2, p3⟩ := M_laysRow m1 m2 m3 m4
      rw [e1, Option.bind_some, if_neg (by decide), m5, Option.bind_some, p1, Option.bind_some]
      exact ⟨_, rfl, p2, p3⟩
    · rw [e1, Option.bind_some, if_pos rfl]
      have : aLayRow c q = (0, c) := by unfold aLayRow; rw [if_neg (by omega)]
      rw [this]
      exact ⟨_, rfl, m1, m2⟩
  obtain ⟨j1, u1, u2, u3⟩ := stepL _ s4 (aUp a r) hA1 hW1 hiA' (inv_up hi r) MX6_upper (by rw [M_up hA1 hiA' hr, hU])
  obtain ⟨v1, u0, u1⟩ := bnd u1
  rw [u0, Option.bind_some, M_up hA1 hiA' hr, hU] at *
  rw [u1, Option.bind_some]
  rw [comm] at u2 u3
  have hi2 : aInv (sC (sC (aLayRow (sF (aMendCells a r) 1 r 1) (aUp a r)).2 6 x6) 7 x7) := (layR_inv hiA (r := aUp a r) (inv_up hi r) :)
  have hG2 : aG (aLayRow (sF (aMendCells a r) 1 r 1) (aUp a r)).2 0 = aG a 0 := by rw [layR_G]; rfl
  have hL2 : aLo (sC (sC (aLayRow (sF (aMendCells a r) 1 r 1) (aUp a r)).2 6 x6) 7 x7) r = aLo a r := (aLo_congr (a := sF (aMendCells a r) 1 r 1) (by show aG (aLayRow _ _).2 0 = _; rw [layR_G]) (fun q => by show aF (aLayRow _ _).2 0 q = _; rw [layR_F]) (fun q => by show aF (aLayRow _ _).2 2 q = _; rw [layR_F]) r).trans hL
  have hr2 : r < aG (sC (sC (aLayRow (sF (aMendCells a r) 1 r 1) (aUp a r)).2 6 x6) 7 x7) 0 := by
    show r < aG (aLayRow (sF (aMendCells a r) 1 r 1) (aUp a r)).2 0
    rw [hG2]; exact hr
  have hlo2 : MX6_lower j1.2 (nI r) = some (nI (aLo a r)) := by rw [M_lo u2 hi2 hr2, hL2]
  rw [hlo2, Option.bind_some]
  obtain ⟨j2, t1, t2, t3⟩ := stepL _ j1.2 (aLo a r) u2 u3 hi2 (by show aLo a r < aG (aLayRow _ _).2 0; rw [hG2]; exact inv_lo hi r) MX6_lower hlo2
  obtain ⟨v2, t0, t1⟩ := bnd t1
  rw [hlo2] at t1
  rw [t0, Option.bind_some, t1, Option.bind_some]
  rw [comm] at t2 t3
  have hi3 : aInv (sC (sC (aLayRow (aLayRow (sF (aMendCells a r) 1 r 1) (aUp a r)).2 (aLo a r)).2 6 x6) 7 x7) := (layR_inv (a := (aLayRow (sF (aMendCells a r) 1 r 1) (aUp a r)).2) hi2 (r := aLo a r) (by rw [hG2]; exact inv_lo hi r) :)
  have hG3 : aG (aLayRow (aLayRow (sF (aMendCells a r) 1 r 1) (aUp a r)).2 (aLo a r)).2 0 = aG a 0 := by rw [layR_G, hG2]
  obtain ⟨g4, m1, m2, m3⟩ := M_laysRow t2 t3 hi3 (r := r) (by show r < aG (aLayRow _ _).2 0; rw [hG3]; exact hr)
  rw [m1, Option.bind_some]
  rw [comm] at m2 m3
  have hC6 : aC (aLayRow (aLayRow (aLayRow (sF (aMendCells a r) 1 r 1) (aUp a r)).2 (aLo a r)).2 r).2 6 + 1 = x6 := by rw [lay_C6, lay_C6, lay_C6, ← hX]; rfl
  have hC7 : aC (aLayRow (aLayRow (aLayRow (sF (aMendCells a r) 1 r 1) (aUp a r)).2 (aLo a r)).2 r).2 7 + nI (aBack a r) = x7 := by rw [lay_C7, lay_C7, lay_C7, ← hY]; rfl
  refine ⟨g4, rfl, ?_, ?_⟩
  · show RepN (sC (sC (aLayRow (aLayRow (aLayRow (sF (aMendCells a r) 1 r 1) (aUp a r)).2 (aLo a r)).2 r).2 6 _) 7 _) g4
    rw [hC6, hC7]
    exact m2
  · show RepW (sC (sC (aLayRow (aLayRow (aLayRow (sF (aMendCells a r) 1 r 1) (aUp a r)).2 (aLo a r)).2 r).2 6 _) 7 _) g4
    rw [hC6, hC7]
    exact m3
end MOPS2
