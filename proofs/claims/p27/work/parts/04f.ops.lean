/-! the class: the changes of rows -/
section OPS
variable {a : Abs} {f : Nat → Int32}
theorem RepC_congr {a a' : Abs} {f : Nat → Int32} (h : RepC a f) (hG : ∀ i, aG a' i = aG a i) (hC : ∀ i, aC a' i = aC a i) (hF : ∀ k r, aF a' k r = aF a k r) (hD : ∀ k r, aD a' k r = aD a k r) (hV : ∀ r c, c < 8 → aV a' r c = aV a r c) (hW : ∀ r c, c < 8 → aW a' r c = aW a r c) (hM : ∀ r, aM a' r = aM a r) : RepC a' f := by
  obtain ⟨⟨h1, h2, h3, h4⟩, h5, h6, h7, h8⟩ := h
  refine ⟨⟨by rw [hG]; exact h1, by rw [hG]; exact h2, by rw [hG]; exact h3, by rw [hG]; exact h4⟩, fun i p q => by rw [hC]; exact h5 i p q, fun r hr => ?_, fun r c hr hc => ?_, fun r k e hr he => ?_⟩
  · rw [hG] at hr
    rw [hF, hF, hF, hD, hD, hM]
    exact h6 r hr
  · rw [hG] at hr
    rw [hV r c hc, hW r c hc]
    exact h7 r c hr hc
  · rw [hG] at hr
    rw [hM] at he
    exact h8 r k e hr he
theorem lay1_G (a : Abs) (r c b : Nat) : aG (aLay1 a r c b).2 = aG a := by
  unfold aLay1
  split <;> rfl
theorem lay1_F (a : Abs) (r c b : Nat) : aF (aLay1 a r c b).2 = aF a := by
  unfold aLay1
  split <;> rfl
theorem lay1_V (a : Abs) (r c b : Nat) : aV (aLay1 a r c b).2 = aV a := by
  unfold aLay1
  split <;> rfl
theorem lay1_W (a : Abs) (r c b : Nat) : aW (aLay1 a r c b).2 = aW a := by
  unfold aLay1
  split <;> rfl
theorem layN_G (a : Abs) (r : Nat) : ∀ k, aG (aLayN a r k).2 = aG a
  | 0 => rfl
  | k + 1 => (lay1_G _ _ _ _).trans (layN_G a r k)
theorem layN_F (a : Abs) (r : Nat) : ∀ k, aF (aLayN a r k).2 = aF a
  | 0 => rfl
  | k + 1 => (lay1_F _ _ _ _).trans (layN_F a r k)
theorem layN_V (a : Abs) (r : Nat) : ∀ k, aV (aLayN a r k).2 = aV a
  | 0 => rfl
  | k + 1 => (lay1_V _ _ _ _).trans (layN_V a r k)
theorem layN_W (a : Abs) (r : Nat) : ∀ k, aW (aLayN a r k).2 = aW a
  | 0 => rfl
  | k + 1 => (lay1_W _ _ _ _).trans (layN_W a r k)
theorem layR_G (a : Abs) (r : Nat) : aG (aLayRow a r).2 = aG a := by
  unfold aLayRow
  split
  · exact layN_G a r 8
  · rfl
theorem layR_F (a : Abs) (r : Nat) : aF (aLayRow a r).2 = aF a := by
  unfold aLayRow
  split
  · exact layN_F a r 8
  · rfl
theorem layR_V (a : Abs) (r : Nat) : aV (aLayRow a r).2 = aV a := by
  unfold aLayRow
  split
  · exact layN_V a r 8
  · rfl
theorem layR_W (a : Abs) (r : Nat) : aW (aLayRow a r).2 = aW a := by
  unfold aLayRow
  split
  · exact layN_W a r 8
  · rfl
theorem aUp_congr {a a' : Abs} (hG : aG a' 0 = aG a 0) (h0 : ∀ r, aF a' 0 r = aF a 0 r) (h2 : ∀ r, aF a' 2 r = aF a 2 r) (r : Nat) : aUp a' r = aUp a r := by
  unfold aUp
  rw [hG, h0, h2]
theorem aLo_congr {a a' : Abs} (hG : aG a' 0 = aG a 0) (h0 : ∀ r, aF a' 0 r = aF a 0 r) (h2 : ∀ r, aF a' 2 r = aF a 2 r) (r : Nat) : aLo a' r = aLo a r := by
  unfold aLo
  rw [hG, h0, h2]
theorem layN_inv (hi : aInv a) {r : Nat} (hr : r < aG a 0) : ∀ k, k ≤ 8 → aInv (aLayN a r k).2
  | 0, _ => hi
  | k + 1, hk => by
    have h1 := layN_inv hi hr k (by omega)
    have hG := layN_G a r k
    exact lay1_inv h1 (by rw [hG]; exact hr) (by omega) (by rw [hG]; exact inv_hold hi r k)
theorem layR_inv (hi : aInv a) {r : Nat} (hr : r < aG a 0) : aInv (aLayRow a r).2 := by
  unfold aLayRow
  split
  · exact layN_inv hi hr 8 (Nat.le_refl _)
  · exact hi
theorem C_layRow (h : RepC a f) (hi : aInv a) {r : Nat} (hr : r < aG a 0) : ∃ g, MX3_layRow f (nI r) = some (nI (aLayRow a r).1, g) ∧ RepC (aLayRow a r).2 g := by
  unfold MX3_layRow aLayRow
  rcases C_lives_b h hi hr with ⟨e1, e2⟩ | ⟨e1, e2⟩
  · rw [e1, Option.bind_some, if_neg (by decide), if_pos e2, C_up h hi hr, Option.bind_some, C_lo h hi hr, Option.bind_some]
    obtain ⟨⟨x, g⟩, hg, q1, q2⟩ := itr_gen (step := SX3_layRow_30 (nI r) (nI (aUp a r)) (nI (aLo a r))) 8
      (fun k s => s.1 = nI (aLayN a r k).1 ∧ s.2.1 = nI k ∧ RepC (aLayN a r k).2 s.2.2)
      (fun s => s.1 = nI (aLayN a r 8).1 ∧ RepC (aLayN a r 8).2 s.2) (by
        rintro k ⟨x, y, g⟩ hk ⟨q1, q2, q3⟩
        dsimp only at q1 q2 q3
        subst q1
        subst q2
        unfold SX3_layRow_30
        dsimp only
        rcases Nat.lt_or_ge k 8 with z | z
        · left
          refine ⟨z, ?_⟩
          have hG := layN_G a r k
          have hik := layN_inv hi hr k (by omega)
          obtain ⟨g', p1, p2⟩ := C_lay q3 hik (r := r) (c := k) (b := aHold a r k) (by rw [hG]; exact hr) z (by rw [hG]; exact inv_hold hi r k)
          rw [if_neg (show ¬ (8 : Int32) ≤ nI k from nI_ge (b := 8) z (by decide)), C_step z, Option.bind_some]
          unfold aHold at p1 p2
          rcases Nat.mod_two_eq_zero_or_one k with w | w
          · rw [if_pos w] at p1 p2 ⊢
            rw [if_pos rfl, p1, Option.bind_some]
            refine ⟨_, rfl, ?_, nI_1 k, ?_⟩
            · dsimp only
              rw [nI_add]
              show _ = nI (_ + (aLay1 (aLayN a r k).2 r k (aHold a r k)).1)
              unfold aHold
              rw [if_pos w]
            · show RepC (aLay1 (aLayN a r k).2 r k (aHold a r k)).2 g'
              unfold aHold
              rw [if_pos w]
              exact p2
          · have wn : ¬ k % 2 = 0 := by omega
            rw [if_neg wn] at p1 p2 ⊢
            rw [if_neg (show ¬ (1 : Int32) = -1 by decide), p1, Option.bind_some]
            refine ⟨_, rfl, ?_, nI_1 k, ?_⟩
            · dsimp only
              rw [nI_add]
              show _ = nI (_ + (aLay1 (aLayN a r k).2 r k (aHold a r k)).1)
              unfold aHold
              rw [if_neg wn]
            · show RepC (aLay1 (aLayN a r k).2 r k (aHold a r k)).2 g'
              unfold aHold
              rw [if_neg wn]
              exact p2
        · right
          have : k = 8 := by omega
          subst this
          rw [if_pos (by decide)]
          exact ⟨_, rfl, rfl, q3⟩) FU (0, 0, f) (FU_lt (by decide)) ⟨rfl, rfl, h⟩
    dsimp only at q1 q2
    subst q1
    rw [hg, Option.bind_some]
    exact ⟨g, rfl, q2⟩
  · rw [e1, Option.bind_some, if_pos rfl, if_neg (by omega)]
    exact ⟨f, rfl, h⟩
/-- arguments: a row's number, a cell's, a value -/
theorem C_hasRow (h : RepC a f) (hi : aInv a) (x : Int32) : (MX3_hasRow f x = some 0 ∧ ¬ ∃ r, r < aG a 0 ∧ x = nI r) ∨ (∃ r, r < aG a 0 ∧ x = nI r ∧ MX3_hasRow f x = some 1) := by
  have h1 := hi.1
  unfold MX3_hasRow
  rcases pk_ix x (n := aG a 0) (by omega) with q | q | ⟨j, hj, q⟩
  · left
    rw [if_pos q]
    refine ⟨rfl, fun ⟨r, hr, e⟩ => ?_⟩
    subst e
    exact nI_pos (by omega) q
  · left
    by_cases z : x < 0
    · rw [if_pos z]
      refine ⟨rfl, fun ⟨r, hr, e⟩ => ?_⟩
      subst e
      exact nI_pos (by omega) z
    · rw [if_neg z, C_n h, Option.bind_some, if_pos q]
      refine ⟨rfl, fun ⟨r, hr, e⟩ => ?_⟩
      subst e
      exact nI_ge hr (by omega) q
  · right
    subst q
    refine ⟨j, hj, rfl, ?_⟩
    rw [if_neg (nI_pos (by omega)), C_n h, Option.bind_some, if_neg (nI_ge hj (by omega))]
theorem C_isCell (x : Int32) : (MX3_isCell x = some 0 ∧ ¬ ∃ c, c < 8 ∧ x = nI c) ∨ (∃ c, c < 8 ∧ x = nI c ∧ MX3_isCell x = some 1) := by
  unfold MX3_isCell
  rcases pk_ix x (n := 8) (by decide) with q | q | ⟨j, hj, q⟩
  · left
    rw [if_pos q]
    refine ⟨rfl, fun ⟨r, hr, e⟩ => ?_⟩
    subst e
    exact nI_pos (by omega) q
  · left
    by_cases z : x < 0
    · rw [if_pos z]
      refine ⟨rfl, fun ⟨r, hr, e⟩ => ?_⟩
      subst e
      exact nI_pos (by omega) z
    · rw [if_neg z, if_pos (show (8 : Int32) ≤ x from q)]
      refine ⟨rfl, fun ⟨r, hr, e⟩ => ?_⟩
      subst e
      exact nI_ge hr (by decide) q
  · right
    subst q
    refine ⟨j, hj, rfl, ?_⟩
    rw [if_neg (nI_pos (by omega)), if_neg (show ¬ (8 : Int32) ≤ nI j from nI_ge (b := 8) hj (by decide))]
theorem C_livesb (h : RepC a f) (hi : aInv a) {b : Nat} (hb : b < aG a 0) : MX3_lives f (nI b) = some (if aF a 1 b = 1 then 1 else 0) := C_lives h hi hb
/-- what a call with an error answers: nothing changes -/
theorem C_write (h : RepC a f) (hi : aInv a) {r c v : Nat} (hr : r < aG a 0) (hc : c < 8) (hv : v ≤ 999) (hl : aF a 1 r = 1) : ∃ g, MX3_writeCell f (nI r) (nI c) (nI v) = some (nI (aWrite a r c v).1, g) ∧ RepC (aWrite a r c v).2 g := by
  have h1 := hi.1
  unfold MX3_writeCell
  rcases C_hasRow h hi (nI r) with ⟨-, q⟩ | ⟨r2, e1, e2, e3⟩
  · exact absurd ⟨r, hr, rfl⟩ q
  rcases C_isCell (nI c) with ⟨-, q⟩ | ⟨c2, e4, e5, e6⟩
  · exact absurd ⟨c, hc, rfl⟩ q
  rw [e3, Option.bind_some, if_neg (by decide), e6, Option.bind_some, if_neg (by decide), if_neg (nI_pos (by omega)), if_pos (show nI v ≤ 999 from nI_le (b := 999) hv (by decide)), C_lives h hi hr, if_pos hl, Option.bind_some, if_neg (by decide)]
  rw [show (64 : Int32) = nI 64 from rfl, ix_8k, putN f _ (by omega), Option.bind_some, show (136 : Int32) = nI 136 from rfl, ix_8k, putN _ _ (by omega), Option.bind_some, show (4 : Int32) = nI 4 from rfl, addN _ _ (by decide), Option.bind_some, C_step hc, Option.bind_some]
  have hv1 : nI v = nI (v + 1) - 1 := by rw [nI_m1 (by omega)]; rfl
  rw [hv1]
  have k1 := rC_V h h1.2 (v + 1) hr hc
  have k2 := rC_W k1 h1.2 (r := r) (c := c) 0 hr hc
  have hi2 : aInv (sW (sV a r c (v + 1)) r c 0) := by
    obtain ⟨g1, g2, g3, g4, g5, g6, g7, g8⟩ := hi
    refine ⟨g1, g2, g3, g4, g5, fun r' c' hr' hc' => ?_, g7, g8⟩
    show up2 _ r c (v + 1) r' c' ≤ 1000
    by_cases z : r' = r ∧ c' = c
    · obtain ⟨rfl, rfl⟩ := z
      rw [up2_s]
      omega
    · rw [up2_n _ _ z]
      exact g6 r' c' hr' hc'
  have k3 := rC_C k2 h1.2 (j := 4) (aC a 4 + 1) (by decide) (by decide)
  have h4 : (upd (upd f (64 + r * 8 + c) (nI (v + 1) - 1)) (136 + r * 8 + c) 0) 4 = aC a 4 := k2.2.1 4 (by decide) (by decide)
  rw [h4]
  have hi3 : aInv (sC (sW (sV a r c (v + 1)) r c 0) 4 (aC a 4 + 1)) := hi2
  have hh := C_hold k3 hi3 c (r := r) hr
  rw [hh, Option.bind_some]
  obtain ⟨g, p1, p2⟩ := C_lay k3 hi3 (r := r) (c := c) (b := aHold a r c) hr hc (inv_hold hi r c)
  have p1' : MX3_layEcho (upd (upd (upd f (64 + r * 8 + c) (nI (v + 1) - 1)) (136 + r * 8 + c) 0) 4 (aC a 4 + 1)) (nI r) (nI c) (nI (aHold (sC (sW (sV a r c (v + 1)) r c 0) 4 (aC a 4 + 1)) r c)) = _ := p1
  rw [p1', Option.bind_some]
  exact ⟨g, rfl, p2⟩
theorem C_layAnew (h : RepC a f) (hi : aInv a) {r : Nat} (hr : r < aG a 0) (hl : aF a 1 r = 1) : ∃ g, MX3_layAnew f (nI r) = some (nI (aLayRow a r).1, g) ∧ RepC (aLayRow a r).2 g := by
  unfold MX3_layAnew
  rcases C_hasRow h hi (nI r) with ⟨-, q⟩ | ⟨r2, e1, e2, e3⟩
  · exact absurd ⟨r, hr, rfl⟩ q
  obtain ⟨g, p1, p2⟩ := C_layRow h hi hr
  rw [e3, Option.bind_some, if_neg (by decide), C_lives h hi hr, if_pos hl, Option.bind_some, if_neg (by decide), p1, Option.bind_some]
  exact ⟨g, rfl, p2⟩
theorem C_days (h : RepC a f) (hi : aInv a) {m : Nat} (h1 : 1 ≤ m) (h2 : m ≤ 99) (h3 : aG a 1 + m ≤ 9999) : ∃ g, MX3_endDays f (nI m) = some (nI (aDays a m).1, g) ∧ RepC (aDays a m).2 g := by
  have hn := hi.1
  unfold MX3_endDays
  rw [if_neg (show ¬ nI m < 1 from nI_nlt (a := m) (b := 1) h1 (by omega)), if_pos (show nI m ≤ 99 from nI_le (b := 99) h2 (by decide)), C_day h, Option.bind_some, nI_add, if_pos (show nI (aG a 1 + m) ≤ 9999 from nI_le (b := 9999) h3 (by decide)), show (0 : Int32) = nI 0 from rfl, addN f _ (by decide), Option.bind_some, getN _ (by decide), Option.bind_some, pk_us, h.1.1, nI_add]
  exact ⟨_, rfl, rC_day h hn.2 _⟩
theorem C_swap (h : RepC a f) (hi : aInv a) {x y : Nat} (hx : x < aG a 0) (hy : y < aG a 0) (hxy : x ≠ y) (lx : aF a 1 x = 1) (ly : aF a 1 y = 1) : ∃ g, MX3_swapRows f (nI x) (nI y) = some (nI (aSwap a x y).1, g) ∧ RepC (aSwap a x y).2 g := by
  have hn := hi.1
  have px := (hi.2.2.2.2.1 x hx).1
  have py := (hi.2.2.2.2.1 y hy).1
  unfold MX3_swapRows
  rcases C_hasRow h hi (nI x) with ⟨-, q⟩ | ⟨r2, e1, e2, e3⟩
  · exact absurd ⟨x, hx, rfl⟩ q
  rcases C_hasRow h hi (nI y) with ⟨-, q⟩ | ⟨r3, e4, e5, e6⟩
  · exact absurd ⟨y, hy, rfl⟩ q
  rw [e3, Option.bind_some, if_neg (by decide), e6, Option.bind_some, if_neg (by decide), if_neg (fun z => hxy ((nI_eq (by omega) (by omega)).mp z)), C_lives h hi hx, if_pos lx, Option.bind_some, if_neg (by decide), C_lives h hi hy, if_pos ly, Option.bind_some, if_neg (by decide), C_pl h hi hx, Option.bind_some, C_pl h hi hy, Option.bind_some]
  rw [show (10 : Int32) = nI 10 from rfl, show (19 : Int32) = nI 19 from rfl, ix_a, ix_a, ix_a, ix_a, putN f _ (by omega), Option.bind_some, putN _ _ (by omega), Option.bind_some, putN _ _ (by omega), Option.bind_some, putN _ _ (by omega), Option.bind_some]
  have k1 := rC_pl h hn.2 (aF a 0 y) hx
  have k2 := rC_pl k1 hn.2 (r := y) (aF a 0 x) hy
  have k3 := rC_at k2 hn.2 (r := aF a 0 y) x py
  have k4 := rC_at k3 hn.2 (r := aF a 0 x) y px
  have h1 : MX3_get (upd (upd (upd (upd f (10 + x) (nI (aF a 0 y))) (10 + y) (nI (aF a 0 x))) (19 + aF a 0 y) (nI x)) (19 + aF a 0 x) (nI y)) 1 = some (nI (aG a 0)) := (C_n k4 :)
  rw [h1, Option.bind_some]
  refine ⟨_, ?_, k4⟩
  have hd : (if 0 ≤ nI (aF a 0 x) - nI (aF a 0 y) then nI (aF a 0 x) - nI (aF a 0 y) else 0 - (nI (aF a 0 x) - nI (aF a 0 y))) = nI (if aF a 0 x ≤ aF a 0 y then aF a 0 y - aF a 0 x else aF a 0 x - aF a 0 y) := by
    rcases Nat.lt_trichotomy (aF a 0 x) (aF a 0 y) with z | z | z
    · rw [if_neg (fun w => absurd (pk_sneg (by omega) z) (by rw [Int32.lt_iff_toInt_lt]; have := Int32.le_iff_toInt_le.mp w; exact Int.not_lt.mpr this)), if_pos (Nat.le_of_lt z)]
      rw [← pk_sub (Nat.le_of_lt z)]
      apply Int32.toBitVec_inj.mp
      simp
    · rw [z, if_pos (by rw [Int32.sub_self]; decide), if_pos (Nat.le_refl _), Int32.sub_self, Nat.sub_self]
      rfl
    · rw [pk_sub (Nat.le_of_lt z), if_pos (nI_pos' (by omega)), if_neg (by omega)]
  rw [hd]
  congr 2
  unfold aSwap aFar
  dsimp only
  generalize hD : (if aF a 0 x ≤ aF a 0 y then aF a 0 y - aF a 0 x else aF a 0 x - aF a 0 y) = d
  have hdl : d ≤ aG a 0 := by rw [← hD]; split <;> omega
  rw [pk_sub hdl]
  rcases Nat.lt_or_ge (aG a 0 - d) d with z | z
  · rw [if_pos (nI_lt z (by omega)), Nat.min_eq_right (Nat.le_of_lt z)]
  · rw [if_neg (nI_nlt z (by omega)), Nat.min_eq_left z]
end OPS
