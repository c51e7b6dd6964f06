/-! the reference: the changes of rows -/
section MOPS
variable {a : Abs} {s : Nat → Int32}
theorem ix5 (k c : Nat) : nI k + nI c = nI (k + c) := nI_add k c
theorem M_laysRow (h : RepN a s) (hw : RepW a s) (hi : aInv a) {r : Nat} (hr : r < aG a 0) : ∃ g, MX6_laysRow s (nI r) = some (nI (aLayRow a r).1, g) ∧ RepN (aLayRow a r).2 g ∧ RepW (aLayRow a r).2 g := by
  have hn := hi.1
  unfold MX6_laysRow aLayRow
  by_cases hl : aF a 1 r = 1
  · rw [if_pos hl]
    obtain ⟨⟨x, g⟩, hg, q1, q2, q3⟩ := itr_gen (step := SX6_laysRow_4 (nI r)) 8
      (fun k y => y.1 = nI (aLayN a r k).1 ∧ y.2.1 = nI k ∧ RepN (aLayN a r k).2 y.2.2 ∧ RepW (aLayN a r k).2 y.2.2)
      (fun y => y.1 = nI (aLayN a r 8).1 ∧ RepN (aLayN a r 8).2 y.2 ∧ RepW (aLayN a r 8).2 y.2) (by
        rintro k ⟨x, y, g⟩ hk ⟨q1, q2, q3, q4⟩
        dsimp only at q1 q2 q3 q4
        subst q1
        subst q2
        unfold SX6_laysRow_4
        dsimp only
        rcases Nat.lt_or_ge k 8 with z | z
        · left
          refine ⟨z, ?_⟩
          have hG := layN_G a r k
          have hF := layN_F a r k
          have hik := layN_inv hi hr k (by omega)
          obtain ⟨g', p1, p2, p3⟩ := M_laysEcho q3 q4 hik (r := r) (c := k) (by rw [hG]; exact hr) z (by rw [hF]; exact hl)
          have hh : aHold (aLayN a r k).2 r k = aHold a r k := by
            unfold aHold
            rw [aUp_congr (a := a) (by rw [hG]) (fun q => by rw [hF]) (fun q => by rw [hF]), aLo_congr (a := a) (by rw [hG]) (fun q => by rw [hF]) (fun q => by rw [hF])]
          rw [hh] at p1 p2 p3
          rw [if_neg (show ¬ (8 : Int32) ≤ nI k from nI_ge (b := 8) z (by decide)), p1, Option.bind_some]
          exact ⟨_, rfl, nI_add _ _, nI_1 k, p2, p3⟩
        · right
          have : k = 8 := by omega
          subst this
          rw [if_pos (by decide)]
          exact ⟨_, rfl, rfl, q3, q4⟩) FU (0, 0, s) (FU_lt (by decide)) ⟨rfl, rfl, h, hw⟩
    dsimp only at q1 q2 q3
    subst q1
    rw [hg, Option.bind_some]
    exact ⟨g, rfl, q2, q3⟩
  · rw [if_neg hl]
    obtain ⟨⟨x, g⟩, hg, q1, q2⟩ := itr_gen (step := SX6_laysRow_4 (nI r)) 8
      (fun k y => y.1 = 0 ∧ y.2.1 = nI k ∧ y.2.2 = s)
      (fun y => y.1 = 0 ∧ y.2 = s) (by
        rintro k ⟨x, y, g⟩ hk ⟨q1, q2, q3⟩
        dsimp only at q1 q2 q3
        subst q1
        subst q2
        subst q3
        unfold SX6_laysRow_4
        dsimp only
        rcases Nat.lt_or_ge k 8 with z | z
        · left
          refine ⟨z, ?_⟩
          have p1 : MX6_laysEcho g (nI r) (nI k) = some (0, g) := by
            unfold MX6_laysEcho
            rw [M_hold h hi hr z, Option.bind_some, M_cell hw hn.2 hr z, if_neg hl, Option.bind_some, if_pos rfl]
          rw [if_neg (show ¬ (8 : Int32) ≤ nI k from nI_ge (b := 8) z (by decide)), p1, Option.bind_some]
          exact ⟨_, rfl, rfl, nI_1 k, rfl⟩
        · right
          have : k = 8 := by omega
          subst this
          rw [if_pos (by decide)]
          exact ⟨_, rfl, rfl, rfl⟩) FU (0, 0, s) (FU_lt (by decide)) ⟨rfl, rfl, rfl⟩
    dsimp only at q1 q2
    subst q1
    subst q2
    rw [hg, Option.bind_some]
    exact ⟨g, rfl, h, hw⟩
theorem V_inv (hi : aInv a) {r c v : Nat} (hv : v ≤ 1000) : aInv (sV a r c v) := by
  obtain ⟨g1, g2, g3, g4, g5, g6, g7, g8⟩ := hi
  refine ⟨g1, g2, g3, g4, g5, fun r' c' hr' hc' => ?_, g7, g8⟩
  by_cases z : r' = r ∧ c' = c
  · obtain ⟨rfl, rfl⟩ := z
    rw [aV_s]
    exact hv
  · rw [aV_r _ _ z]
    exact g6 r' c' hr' hc'
theorem ne_row {p q k j : Nat} (h : ¬ (p = q ∧ k = j)) (hk : k < 77) (hj : j < 77) : ¬ 10 + 77 * p + k = 10 + 77 * q + j := by
  intro e
  rcases Nat.lt_trichotomy p q with w | w | w
  · omega
  · exact h ⟨w, by omega⟩
  · omega
theorem M_write (h : RepN a s) (hw : RepW a s) (hi : aInv a) {r c v : Nat} (hr : r < aG a 0) (hc : c < 8) (hv : v ≤ 999) (hl : aF a 1 r = 1) : ∃ g, MX6_goWrite s (nI r) (nI c) (nI v) = some (nI (aWrite a r c v).1, g) ∧ RepN (aWrite a r c v).2 g ∧ RepW (aWrite a r c v).2 g := by
  have hn := hi.1
  unfold MX6_goWrite
  rw [show (5 : Int32) = nI 5 from rfl, show (21 : Int32) = nI 21 from rfl, show (1 : Int32) = nI 1 from rfl, nI_add, nI_add, nI_add, M_lays s _ (by omega) (by omega), Option.bind_some, M_lays _ _ (by omega) (by omega), Option.bind_some, show (4 : Int32) = nI 4 from rfl, ldM _ (by decide), Option.bind_some, stM _ _ (by decide), Option.bind_some]
  have k1 := rN_cell h hn.2 (len16 hi) (r := r) (kk := 5 + c) (nI (1 + v)) hr (by omega) (by omega)
  have k2 := rN_cell k1 hn.2 (len16 hi) (r := r) (kk := 21 + c) 0 hr (by omega) (by omega)
  have k3 := rN_C k2 hn.2 (len16 hi) (j := 4) (aC a 4 + nI 1) (by decide) (by decide)
  rw [k2.2.1 4 (by decide) (by decide)]
  have hw3 : RepW (sC (sW (sV a r c (v + 1)) r c 0) 4 (aC a 4 + nI 1)) (upd (upd (upd s (10 + 77 * r + (5 + c)) (nI (1 + v))) (10 + 77 * r + (21 + c)) 0) 4 (aC a 4 + nI 1)) := by
    intro p q hp hq
    have hp : p < aG a 0 := hp
    obtain ⟨e1, e2, e3⟩ := hw p q hp hq
    refine ⟨?_, fun e => ?_, ?_⟩
    · rw [pk_un (by omega), pk_un (ne_row (by omega) (by omega) (by omega))]
      show _ = if aF a 1 p = 1 then nI (aV (sV a r c (v + 1)) p q) else 0
      by_cases z : p = r ∧ q = c
      · obtain ⟨rfl, rfl⟩ := z
        rw [pk_us, if_pos hl, aV_s, Nat.add_comm]
      · rw [pk_un (ne_row (by omega) (by omega) (by omega)), aV_r _ _ z]
        exact e1
    · have e : aF a 1 p = 0 := e
      have hpr : ¬ p = r := fun w => by rw [w] at e; omega
      rw [pk_un (by omega), pk_un (ne_row (by omega) (by omega) (by omega)), pk_un (ne_row (by omega) (by omega) (by omega))]
      show _ = nI (aV (sV a r c (v + 1)) p q)
      rw [aV_r _ _ (fun w => hpr w.1)]
      exact e2 e
    · rw [pk_un (by omega)]
      show _ = aW (sW (sV a r c (v + 1)) r c 0) p q
      by_cases z : p = r ∧ q = c
      · obtain ⟨rfl, rfl⟩ := z
        rw [pk_us, aW_s]
      · rw [pk_un (ne_row (by omega) (by omega) (by omega)), pk_un (ne_row (by omega) (by omega) (by omega)), aW_r _ _ z]
        exact e3
  have hi3 : aInv (sC (sW (sV a r c (v + 1)) r c 0) 4 (aC a 4 + nI 1)) := (V_inv hi (r := r) (c := c) (v := v + 1) (by omega) :)
  obtain ⟨g, p1, p2, p3⟩ := M_laysEcho (a := sC (sW (sV a r c (v + 1)) r c 0) 4 (aC a 4 + nI 1)) k3 hw3 hi3 (r := r) (c := c) hr hc hl
  rw [p1, Option.bind_some]
  exact ⟨g, rfl, p2, p3⟩
theorem M_lose (h : RepN a s) (hw : RepW a s) (hi : aInv a) {r : Nat} (hr : r < aG a 0) (hl : aF a 1 r = 1) : ∃ g, MX6_goLose s (nI r) = some (nI (aLose a r).1, g) ∧ RepN (aLose a r).2 g ∧ RepW (aLose a r).2 g := by
  have hn := hi.1
  unfold MX6_goLose
  rw [M_back h hw hi hr, Option.bind_some]
  obtain ⟨g1, hg1, q1, q2, q3⟩ := itr_gen (step := SX6_goLose_8 (nI r)) 8
    (fun k y => y.1 = nI k ∧ RepN a y.2 ∧ (∀ p j, p < aG a 0 → 5 ≤ j → j < 29 → ¬ p = r → y.2 (10 + 77 * p + j) = s (10 + 77 * p + j)) ∧ (∀ c, c < 8 → (c < k → y.2 (10 + 77 * r + (5 + c)) = 0 ∧ y.2 (10 + 77 * r + (13 + c)) = nI (aV a r c) ∧ y.2 (10 + 77 * r + (21 + c)) = 0) ∧ (k ≤ c → y.2 (10 + 77 * r + (5 + c)) = nI (aV a r c))))
    (fun g => RepN a g ∧ (∀ p j, p < aG a 0 → 5 ≤ j → j < 29 → ¬ p = r → g (10 + 77 * p + j) = s (10 + 77 * p + j)) ∧ (∀ c, c < 8 → g (10 + 77 * r + (5 + c)) = 0 ∧ g (10 + 77 * r + (13 + c)) = nI (aV a r c) ∧ g (10 + 77 * r + (21 + c)) = 0)) (by
      rintro k ⟨x, g⟩ hk ⟨q1, q2, q3, q4⟩
      dsimp only at q1 q2 q3 q4
      subst q1
      unfold SX6_goLose_8
      dsimp only
      rcases Nat.lt_or_ge k 8 with z | z
      · left
        refine ⟨z, ?_⟩
        rw [if_neg (show ¬ (8 : Int32) ≤ nI k from nI_ge (b := 8) z (by decide)), show (5 : Int32) = nI 5 from rfl, show (13 : Int32) = nI 13 from rfl, show (21 : Int32) = nI 21 from rfl, ix5, ix5, ix5, M_of g (by omega) (by omega), Option.bind_some, (q4 k z).2 (Nat.le_refl _), M_lays g _ (by omega) (by omega), Option.bind_some, M_lays _ _ (by omega) (by omega), Option.bind_some, M_lays _ _ (by omega) (by omega), Option.bind_some]
        have k1 := rN_cell q2 hn.2 (len16 hi) (r := r) (kk := 13 + k) (nI (aV a r k)) hr (by omega) (by omega)
        have k2 := rN_cell k1 hn.2 (len16 hi) (r := r) (kk := 5 + k) 0 hr (by omega) (by omega)
        have k3 := rN_cell k2 hn.2 (len16 hi) (r := r) (kk := 21 + k) 0 hr (by omega) (by omega)
        refine ⟨_, rfl, nI_1 k, k3, fun p j h1 h2 h3 h4 => ?_, fun c hc => ⟨fun hck => ?_, fun hck => ?_⟩⟩
        · dsimp only
          rw [pk_un (ne_row (fun w => h4 w.1) (by omega) (by omega)), pk_un (ne_row (fun w => h4 w.1) (by omega) (by omega)), pk_un (ne_row (fun w => h4 w.1) (by omega) (by omega))]
          exact q3 p j h1 h2 h3 h4
        · dsimp only
          by_cases y : c = k
          · subst y
            refine ⟨?_, ?_, ?_⟩
            · rw [pk_un (by omega), pk_us]
            · rw [pk_un (by omega), pk_un (by omega), pk_us]
            · rw [pk_us]
          · obtain ⟨w1, w2, w3⟩ := (q4 c hc).1 (by omega)
            refine ⟨?_, ?_, ?_⟩
            · rw [pk_un (by omega), pk_un (by omega), pk_un (by omega)]; exact w1
            · rw [pk_un (by omega), pk_un (by omega), pk_un (by omega)]; exact w2
            · rw [pk_un (by omega), pk_un (by omega), pk_un (by omega)]; exact w3
        · dsimp only
          rw [pk_un (by omega), pk_un (by omega), pk_un (by omega)]
          exact (q4 c hc).2 (by omega)
      · right
        have : k = 8 := by omega
        subst this
        rw [if_pos (by decide)]
        exact ⟨g, rfl, q2, q3, fun c hc => (q4 c hc).1 hc⟩) FU (0, s) (FU_lt (by decide)) ⟨rfl, h, fun _ _ _ _ _ _ => rfl, fun c hc => ⟨fun w => absurd w (Nat.not_lt_zero c), fun _ => by
        dsimp only
        rw [(hw r c hr hc).1, if_pos hl]⟩⟩
  rw [hg1, Option.bind_some]
  obtain ⟨g2, hg2, r1⟩ := itr_gen (step := SX6_goLose_58 (nI r)) 48
    (fun k y => y.1 = nI k ∧ (∀ i, ¬ (10 + 77 * r + 29 ≤ i ∧ i < 10 + 77 * r + 77) → y.2 i = g1 i))
    (fun g => ∀ i, ¬ (10 + 77 * r + 29 ≤ i ∧ i < 10 + 77 * r + 77) → g i = g1 i) (by
      rintro k ⟨x, g⟩ hk ⟨q1, q2⟩
      dsimp only at q1 q2
      subst q1
      unfold SX6_goLose_58
      dsimp only
      rcases Nat.lt_or_ge k 48 with z | z
      · left
        refine ⟨z, ?_⟩
        rw [if_neg (show ¬ (48 : Int32) ≤ nI k from nI_ge (b := 48) z (by decide)), show (29 : Int32) = nI 29 from rfl, ix5, M_lays g _ (by omega) (by omega), Option.bind_some]
        refine ⟨_, rfl, nI_1 k, fun i hi2 => ?_⟩
        dsimp only
        rw [pk_un (by omega)]
        exact q2 i hi2
      · right
        have : k = 48 := by omega
        subst this
        rw [if_pos (by decide)]
        exact ⟨g, rfl, q2⟩) FU (0, g1) (FU_lt (by decide)) ⟨rfl, fun _ _ => rfl⟩
  rw [hg2, Option.bind_some, show (4 : Int32) = nI 4 from rfl, show (2 : Int32) = nI 2 from rfl, show MX6_lays g2 (nI r) (nI 4) 0 = some _ from M_lays g2 0 (by omega) (by decide), Option.bind_some, show (1 : Int32) = nI 1 from rfl, M_lays _ _ (by omega) (by decide), Option.bind_some, M_adds _ (by omega) (by decide), Option.bind_some, show (5 : Int32) = nI 5 from rfl, ldM _ (by decide), Option.bind_some, stM _ _ (by decide), Option.bind_some]
  have k1 := rN_M (g := upd g2 (10 + 77 * r + 4) 0) (L := []) q1 hn.2 (len16 hi) hr (fun j y1 y2 => by rw [pk_un y1]; exact r1 j y2) pk_us (fun k e he => by cases he)
  have hl1 : ∀ q, q < aG a 0 → (aM (sM a r []) q).length ≤ 16 := by
    intro q hq
    by_cases z : q = r
    · subst z; rw [aM_s]; exact Nat.zero_le _
    · rw [aM_r _ _ z]; exact inv_len hi hq
  have k2 := rN_lv k1 hn.2 hl1 (r := r) 0 hr
  have k3 := rN_tl k2 hn.2 hl1 (r := r) (aD a 2 r + 1) hr
  have k4 := rN_C k3 hn.2 hl1 (j := 5) (aC a 5 + 1) (by decide) (by decide)
  have e1 : (upd (upd g2 (10 + 77 * r + 4) 0) (10 + 77 * r + 1) (nI 0)) (10 + 77 * r + 2) = aD a 2 r := (k2.2.2.1 r hr).2.2.1
  have e2 : (upd (upd (upd g2 (10 + 77 * r + 4) 0) (10 + 77 * r + 1) (nI 0)) (10 + 77 * r + 2) (aD a 2 r + 1)) 5 = aC a 5 := k3.2.1 5 (by decide) (by decide)
  refine ⟨upd (upd (upd (upd g2 (10 + 77 * r + 4) 0) (10 + 77 * r + 1) (nI 0)) (10 + 77 * r + 2) (aD a 2 r + 1)) 5 (aC a 5 + 1), ?_, k4, ?_⟩
  · rw [← e2, ← e1]
    rfl
  · intro p q hp hq
    have hp : p < aG a 0 := hp
    have hsame : ∀ j, 5 ≤ j → j < 29 → (upd (upd (upd (upd g2 (10 + 77 * r + 4) 0) (10 + 77 * r + 1) (nI 0)) (10 + 77 * r + 2) (aD a 2 r + 1)) 5 (aC a 5 + 1)) (10 + 77 * p + j) = g1 (10 + 77 * p + j) := by
      intro j j1 j2
      rw [pk_un (by omega), pk_un (ne_row (by omega) (by omega) (by omega)), pk_un (ne_row (by omega) (by omega) (by omega)), pk_un (ne_row (by omega) (by omega) (by omega))]
      refine r1 _ ?_
      rcases Nat.lt_trichotomy p r with w | w | w
      · omega
      · omega
      · omega
    rw [hsame _ (by omega) (by omega), hsame _ (by omega) (by omega), hsame _ (by omega) (by omega)]
    show (g1 (10 + 77 * p + (5 + q)) = if aF (sF a 1 r 0) 1 p = 1 then nI (aV a p q) else 0) ∧ (aF (sF a 1 r 0) 1 p = 0 → g1 (10 + 77 * p + (13 + q)) = nI (aV a p q)) ∧ g1 (10 + 77 * p + (21 + q)) = (if p = r then 0 else aW a p q)
    by_cases z : p = r
    · subst z
      obtain ⟨w1, w2, w3⟩ := q3 q hq
      rw [aF_s, if_neg (by decide), if_pos rfl]
      exact ⟨w1, fun _ => w2, w3⟩
    · obtain ⟨w1, w2, w3⟩ := hw p q hp hq
      rw [aF_r _ _ _ z, if_neg z, q2 p _ hp (by omega) (by omega) z, q2 p _ hp (by omega) (by omega) z, q2 p _ hp (by omega) (by omega) z]
      exact ⟨w1, w2, w3⟩
end MOPS
