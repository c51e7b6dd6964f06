/-! what always holds, after each change -/
section INV6
variable {a : Abs}
theorem Wz_lay1 (h : aWz a) (r c b : Nat) : aWz (aLay1 a r c b).2 := by
  intro p q hp hq h0
  rw [lay1_G] at hp
  rw [lay1_F] at h0
  rw [lay1_W]
  exact h p q hp hq h0
theorem Wz_layR (h : aWz a) (r : Nat) : aWz (aLayRow a r).2 := by
  intro p q hp hq h0
  rw [layR_G] at hp
  rw [layR_F] at h0
  rw [layR_W]
  exact h p q hp hq h0
theorem write_inv (hi : aInv a) {r c v : Nat} (hr : r < aG a 0) (hc : c < 8) (hv : v ≤ 999) : aInv (aWrite a r c v).2 := by
  have k1 : aInv (sC (sW (sV a r c (v + 1)) r c 0) 4 (aC a 4 + 1)) := (V_inv hi (r := r) (c := c) (v := v + 1) (by omega) :)
  exact lay1_inv k1 hr hc (inv_hold hi r c)
theorem write_wz (h : aWz a) (r c v : Nat) : aWz (aWrite a r c v).2 := by
  refine Wz_lay1 (a := sC (sW (sV a r c (v + 1)) r c 0) 4 (aC a 4 + 1)) ?_ _ _ _
  intro p q hp hq h0
  show up2 (aW a) r c 0 p q = 0
  by_cases y : p = r ∧ q = c
  · obtain ⟨rfl, rfl⟩ := y
    exact up2_s _ _ _ _
  · rw [up2_n _ _ y]
    exact h p q hp hq h0
theorem lose_inv (hi : aInv a) (r : Nat) : aInv (aLose a r).2 := by
  obtain ⟨h1, h2, h3, h4, h5, h6, h7, h8⟩ := hi
  have hM : ∀ p, aM (aLose a r).2 p = [] ∨ aM (aLose a r).2 p = aM a p := by
    intro p
    show up1 (aM a) r [] p = [] ∨ up1 (aM a) r [] p = aM a p
    by_cases y : p = r
    · subst y; left; exact up1_s _ _ _
    · right; exact up1_n _ _ y
  refine ⟨h1, h2, h3, h4, fun p hp => ?_, h6, fun p e hp he => ?_, fun p hp => ?_⟩
  · have w := h5 p hp
    have e0 : aF (aLose a r).2 0 = aF a 0 := funext fun q => (show up2 (aF a) 1 r 0 0 q = aF a 0 q from up2_n _ _ (fun z => absurd z.1 (by decide)))
    have e2 : aF (aLose a r).2 2 = aF a 2 := funext fun q => (show up2 (aF a) 1 r 0 2 q = aF a 2 q from up2_n _ _ (fun z => absurd z.1 (by decide)))
    rw [e0, e2]
    refine ⟨w.1, w.2.1, w.2.2.1, w.2.2.2.1, ?_, ?_, ?_⟩
    · show up2 (aF a) 1 r 0 1 p ≤ 1
      by_cases y : p = r
      · subst y; rw [up2_s]; exact Nat.zero_le _
      · rw [up2_n _ _ (fun z => y z.2)]; exact w.2.2.2.2.1
    · rcases hM p with e | e
      · rw [e]; exact Nat.zero_le _
      · rw [e]; exact w.2.2.2.2.2.1
    · intro z
      show up1 (aM a) r [] p = []
      by_cases y : p = r
      · subst y; exact up1_s _ _ _
      · rw [up1_n _ _ y]
        apply w.2.2.2.2.2.2
        have := (show up2 (aF a) 1 r 0 1 p = 0 from z)
        rw [up2_n _ _ (fun z => y z.2)] at this
        exact this
  · rcases hM p with w | w
    · rw [w] at he; cases he
    · rw [w] at he; exact h7 p e hp he
  · rcases hM p with w | w
    · rw [w]; exact List.nodup_nil
    · rw [w]; exact h8 p hp
theorem lose_wz (h : aWz a) (r : Nat) : aWz (aLose a r).2 := by
  intro p q hp hq h0
  show (if p = r then 0 else aW a p q) = 0
  by_cases y : p = r
  · rw [if_pos y]
  · rw [if_neg y]
    apply h p q hp hq
    have := (show up2 (aF a) 1 r 0 1 p = 0 from h0)
    rw [up2_n _ _ (fun z => y z.2)] at this
    exact this
theorem mend_inv (hi : aInv a) {r : Nat} (hr : r < aG a 0) : aInv (aMend a r).2 := by
  have k1 : aInv (sF (aMendCells a r) 1 r 1) := lives_inv (mendC_inv hi r)
  have k2 := layR_inv k1 (r := aUp a r) (inv_up hi r)
  have k3 := layR_inv k2 (r := aLo a r) (by rw [layR_G]; exact inv_lo hi r)
  have k4 := layR_inv k3 (r := r) (by rw [layR_G, layR_G]; exact hr)
  exact (k4 :)
theorem mend_wz (h : aWz a) (r : Nat) : aWz (aMend a r).2 := by
  have k1 : aWz (sF (aMendCells a r) 1 r 1) := by
    intro p q hp hq h0
    have y : ¬ p = r := by
      rintro rfl
      have := (show up2 (aF a) 1 p 1 1 p = 0 from h0)
      rw [up2_s] at this
      cases this
    show (if p = r then _ else aW a p q) = 0
    rw [if_neg y]
    apply h p q hp hq
    have := (show up2 (aF a) 1 r 1 1 p = 0 from h0)
    rw [up2_n _ _ (fun z => y z.2)] at this
    exact this
  exact (Wz_layR (Wz_layR (Wz_layR k1 (aUp a r)) (aLo a r)) r :)
theorem days_inv (hi : aInv a) {m : Nat} (h : aG a 1 + m ≤ 9999) : aInv (aDays a m).2 := by
  obtain ⟨h1, h2, h3, h4, h5, h6, h7, h8⟩ := hi
  refine ⟨h1, h, h3, h4, h5, h6, fun p e hp he => ?_, h8⟩
  have := h7 p e hp he
  exact ⟨this.1, this.2.1, Nat.le_trans this.2.2 (Nat.le_add_right _ _)⟩
theorem swap_inv (hi : aInv a) {x y : Nat} (hx : x < aG a 0) (hy : y < aG a 0) (hxy : ¬ x = y) : aInv (aSwap a x y).2 := by
  obtain ⟨h1, h2, h3, h4, h5, h6, h7, h8⟩ := hi
  have wx := h5 x hx
  have wy := h5 y hy
  have hp : ¬ aF a 0 x = aF a 0 y := by
    intro z
    have := wx.2.2.1
    rw [z, wy.2.2.1] at this
    exact hxy this.symm
  have e0 : ∀ r, aF (aSwap a x y).2 0 r = if r = y then aF a 0 x else if r = x then aF a 0 y else aF a 0 r := by
    intro r
    show up2 (up2 (up2 (up2 (aF a) 0 x (aF a 0 y)) 0 y (aF a 0 x)) 2 (aF a 0 y) x) 2 (aF a 0 x) y 0 r = _
    rw [up2_n _ _ (fun z => absurd z.1 (by decide)), up2_n _ _ (fun z => absurd z.1 (by decide))]
    by_cases y1 : r = y
    · subst y1; rw [up2_s, if_pos rfl]
    · rw [up2_n _ _ (fun z => y1 z.2), if_neg y1]
      by_cases y2 : r = x
      · subst y2; rw [up2_s, if_pos rfl]
      · rw [up2_n _ _ (fun z => y2 z.2), if_neg y2]
  have e2 : ∀ p, aF (aSwap a x y).2 2 p = if p = aF a 0 x then y else if p = aF a 0 y then x else aF a 2 p := by
    intro r
    show up2 (up2 (up2 (up2 (aF a) 0 x (aF a 0 y)) 0 y (aF a 0 x)) 2 (aF a 0 y) x) 2 (aF a 0 x) y 2 r = _
    by_cases y1 : r = aF a 0 x
    · subst y1; rw [up2_s, if_pos rfl]
    · rw [up2_n _ _ (fun z => y1 z.2), if_neg y1]
      by_cases y2 : r = aF a 0 y
      · subst y2; rw [up2_s, if_pos rfl]
      · rw [up2_n _ _ (fun z => y2 z.2), if_neg y2, up2_n _ _ (fun z => absurd z.1 (by decide)), up2_n _ _ (fun z => absurd z.1 (by decide))]
  have e1 : ∀ p, aF (aSwap a x y).2 1 p = aF a 1 p := by
    intro r
    show up2 (up2 (up2 (up2 (aF a) 0 x (aF a 0 y)) 0 y (aF a 0 x)) 2 (aF a 0 y) x) 2 (aF a 0 x) y 1 r = _
    rw [up2_n _ _ (fun z => absurd z.1 (by decide)), up2_n _ _ (fun z => absurd z.1 (by decide)), up2_n _ _ (fun z => absurd z.1 (by decide)), up2_n _ _ (fun z => absurd z.1 (by decide))]
  refine ⟨h1, h2, h3, h4, fun p hp' => ?_, h6, h7, h8⟩
  have w := h5 p hp'
  refine ⟨?_, ?_, ?_, ?_, ?_, w.2.2.2.2.2.1, ?_⟩
  · rw [e0]
    show _ < aG a 0
    split
    · exact wx.1
    · split
      · exact wy.1
      · exact w.1
  · rw [e2]
    show _ < aG a 0
    split
    · exact hy
    · split
      · exact hx
      · exact w.2.1
  · rw [e2, e0]
    by_cases y1 : p = y
    · rw [if_pos y1, if_pos rfl, y1]
    · rw [if_neg y1]
      by_cases y2 : p = x
      · rw [if_pos y2, if_neg (fun z => hp z.symm), if_pos rfl, y2]
      · rw [if_neg y2, if_neg (by
          intro z
          have := w.2.2.1
          rw [z, wx.2.2.1] at this
          exact y2 this.symm), if_neg (by
          intro z
          have := w.2.2.1
          rw [z, wy.2.2.1] at this
          exact y1 this.symm), w.2.2.1]
  · rw [e0, e2]
    by_cases y1 : p = aF a 0 x
    · rw [if_pos y1, if_pos rfl, y1]
    · rw [if_neg y1]
      by_cases y2 : p = aF a 0 y
      · rw [if_pos y2, if_neg hxy, if_pos rfl, y2]
      · rw [if_neg y2, if_neg (by
          intro z
          have := w.2.2.2.1
          rw [z] at this
          exact y2 this.symm), if_neg (by
          intro z
          have := w.2.2.2.1
          rw [z] at this
          exact y1 this.symm), w.2.2.2.1]
  · rw [e1]; exact w.2.2.2.2.1
  · rw [e1]; exact w.2.2.2.2.2.2
theorem swap_wz (h : aWz a) (x y : Nat) : aWz (aSwap a x y).2 := by
  intro p q hp hq h0
  apply h p q hp hq
  have := (show up2 (up2 (up2 (up2 (aF a) 0 x (aF a 0 y)) 0 y (aF a 0 x)) 2 (aF a 0 y) x) 2 (aF a 0 x) y 1 p = 0 from h0)
  rw [up2_n _ _ (fun z => absurd z.1 (by decide)), up2_n _ _ (fun z => absurd z.1 (by decide)), up2_n _ _ (fun z => absurd z.1 (by decide)), up2_n _ _ (fun z => absurd z.1 (by decide))] at this
  exact this
theorem set_inv (hi : aInv a) {w x : Nat} (hw : w ≤ 1) (h1 : 1 ≤ x) (h2 : x ≤ if w = 0 then 16 else 99) : aInv (aSet a w x).2 := by
  have hG : ∀ i, aG (aSet a w x).2 i = if i = 2 + w then x else aG a i := by
    intro i
    show up1 (aG a) (2 + w) x i = _
    by_cases y : i = 2 + w
    · subst y; rw [up1_s, if_pos rfl]
    · rw [up1_n _ _ y, if_neg y]
  have hM : ∀ p, aM (aSet a w x).2 p = (aM a p).drop ((aM a p).length - aG (aSet a w x).2 2) := fun p => rfl
  obtain ⟨i1, i2, i3, i4, i5, i6, i7, i8⟩ := hi
  have g0 : aG (aSet a w x).2 0 = aG a 0 := by rw [hG, if_neg (by omega)]
  have g1 : aG (aSet a w x).2 1 = aG a 1 := by rw [hG, if_neg (by omega)]
  refine ⟨by rw [g0]; exact i1, by rw [g1]; exact i2, ?_, ?_, fun p hp => ?_, fun p c hp hc => ?_, fun p e hp he => ?_, fun p hp => ?_⟩
  · rw [hG]
    by_cases y : 2 = 2 + w
    · rw [if_pos y]
      rw [if_pos (by omega)] at h2
      exact ⟨h1, h2⟩
    · rw [if_neg y]; exact i3
  · rw [hG]
    by_cases y : 3 = 2 + w
    · rw [if_pos y]
      rw [if_neg (by omega)] at h2
      exact ⟨h1, h2⟩
    · rw [if_neg y]; exact i4
  · rw [g0] at hp ⊢
    have w := i5 p hp
    refine ⟨w.1, w.2.1, w.2.2.1, w.2.2.2.1, w.2.2.2.2.1, ?_, ?_⟩
    · rw [hM, List.length_drop]
      omega
    · intro z
      rw [hM, w.2.2.2.2.2.2 z]
      exact List.drop_nil
  · rw [g0] at hp; exact i6 p c hp hc
  · rw [g0] at hp ⊢
    rw [g1]
    rw [hM] at he
    exact i7 p e hp (List.mem_of_mem_drop he)
  · rw [g0] at hp
    rw [hM]
    exact (i8 p hp).sublist ((List.drop_sublist _ _).map _)
theorem set_wz (h : aWz a) {w x : Nat} : aWz (aSet a w x).2 := by
  intro p q hp hq h0
  refine h p q ?_ hq h0
  have : aG (aSet a w x).2 0 = aG a 0 := up1_n _ _ (by omega)
  rw [this] at hp
  exact hp
theorem begin_inv (hi : aInv a) {n : Nat} (hn1 : 3 ≤ n) (hn2 : n ≤ 9) : aInv (aBegin a n).2 := by
  have := (rows_inv (fresh_inv a hi.2.1 hi.2.2.1 hi.2.2.2.1 ⟨hn1, hn2⟩) n (by rw [fr_0]; exact Nat.le_refl _)).1
  exact (this :)
theorem begin_wz (hi : aInv a) {n : Nat} (hn1 : 3 ≤ n) (hn2 : n ≤ 9) : aWz (aBegin a n).2 := by
  intro p q hp hq h0
  have := (rows_inv (fresh_inv a hi.2.1 hi.2.2.1 hi.2.2.2.1 ⟨hn1, hn2⟩) n (by rw [fr_0]; exact Nat.le_refl _)).2.2.1
  have z : aF (aLayRows (aFresh a n) n) 1 p = 0 := h0
  rw [this] at z
  exact absurd z (by show ¬ (if 1 = 1 then 1 else p) = 0; rw [if_pos rfl]; decide)
theorem lay1_le (a : Abs) (r c b : Nat) : (aLay1 a r c b).1 ≤ 1 := by
  unfold aLay1
  split
  · exact Nat.zero_le _
  · exact Nat.le_refl _
theorem layN_le (a : Abs) (r : Nat) : ∀ k, (aLayN a r k).1 ≤ k
  | 0 => Nat.le_refl _
  | k + 1 => Nat.add_le_add (layN_le a r k) (lay1_le _ _ _ _)
theorem layR_le (a : Abs) (r : Nat) : (aLayRow a r).1 ≤ 8 := by
  unfold aLayRow
  split
  · exact layN_le a r 8
  · exact Nat.zero_le _
end INV6
