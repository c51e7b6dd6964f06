/-! the class: margins and laying -/
theorem sM_sM (a : Abs) (b : Nat) (L L' : List Ech) : sM (sM a b L) b L' = sM a b L' := by
  unfold sM
  dsimp only
  rw [show up1 (up1 a.2.2.2.2.2.2 b L) b L' = up1 a.2.2.2.2.2.2 b L' from funext fun q => by
    unfold up1
    by_cases z : q = b
    · rw [if_pos z, if_pos z]
    · rw [if_neg z, if_neg z, if_neg z]]
theorem upd_same {f : Nat → Int32} {i : Nat} {x : Int32} (h : f i = x) : upd f i x = f := by
  funext j
  by_cases z : j = i
  · subst z; rw [pk_us]; exact h.symm
  · rw [pk_un z]
section LAY
variable {a : Abs} {f : Nat → Int32}
theorem inv_M (hi : aInv a) {b : Nat} {L : List Ech} (hl : L.length ≤ aG a 2) (h0 : aF a 1 b = 0 → L = []) (he : ∀ e ∈ L, e.1 < 8 * aG a 0 ∧ e.2.1 ≤ 999 ∧ e.2.2 ≤ aG a 1) (hn : (L.map (fun e => e.1)).Nodup) : aInv (sM a b L) := by
  obtain ⟨h1, h2, h3, h4, h5, h6, h7, h8⟩ := hi
  refine ⟨h1, h2, h3, h4, fun r hr => ?_, h6, fun r e hr hm => ?_, fun r hr => ?_⟩
  · obtain ⟨g1, g2, g3, g4, g5, g6, g7⟩ := h5 r hr
    refine ⟨g1, g2, g3, g4, g5, ?_, ?_⟩
    · by_cases z : r = b
      · subst z; rw [aM_s]; exact hl
      · rw [aM_r _ _ z]; exact g6
    · intro q
      by_cases z : r = b
      · subst z; rw [aM_s]; exact h0 q
      · rw [aM_r _ _ z]; exact g7 q
  · by_cases z : r = b
    · subst z; rw [aM_s] at hm; exact he e hm
    · rw [aM_r _ _ z] at hm; exact h7 r e hr hm
  · by_cases z : r = b
    · subst z; rw [aM_s]; exact hn
    · rw [aM_r _ _ z]; exact h8 r hr
theorem inv_sub (hi : aInv a) {b : Nat} {L : List Ech} (hb : b < aG a 0) (hs : L.Sublist (aM a b)) : aInv (sM a b L) := by
  have h5 := hi.2.2.2.2.1 b hb
  refine inv_M hi (Nat.le_trans hs.length_le h5.2.2.2.2.2.1) (fun q => ?_) (fun e he => hi.2.2.2.2.2.2.1 b e hb (hs.subset he)) ((hs.map _).nodup (hi.2.2.2.2.2.2.2 b hb))
  have := h5.2.2.2.2.2.2 q
  rw [this] at hs
  exact List.sublist_nil.mp hs
theorem len16 (hi : aInv a) : ∀ q, q < aG a 0 → (aM a q).length ≤ 16 := fun _ hq => inv_len hi hq
theorem ix_55 {b : Nat} : (55 : Int32) + nI b = nI (55 + b) := nI_add 55 b
theorem ix_46 {b : Nat} : (46 : Int32) + nI b = nI (46 + b) := nI_add 46 b
theorem ix_208 {b k : Nat} : ((208 : Int32) + nI b * 16) + nI k = nI (208 + b * 16 + k) := ix_16 208 b k
/-- an echo of the same cell goes -/
theorem C_remove (h : RepC a f) (hi : aInv a) {b o : Nat} (hb : b < aG a 0) (ho : o < 2 ^ 31) : ∃ g, MX3_removeEcho f (nI b) (nI o) = some g ∧ RepC (sM a b ((aM a b).filter (fun e => !decide (e.1 = o)))) g := by
  have h1 := hi.1
  have hl := inv_len hi hb
  unfold MX3_removeEcho
  rw [C_ec h hi hb, Option.bind_some]
  obtain ⟨⟨kp, g⟩, hg, q1, q2, q3⟩ := itr_gen (step := SX3_removeEcho_25 (nI (aM a b).length) (nI b) (nI o)) (aM a b).length
    (fun k s => s.2.1 = nI k ∧ s.1 = nI (((aM a b).take k).filter (fun e => !decide (e.1 = o))).length ∧ (∀ j, ¬ (208 + b * 16 ≤ j ∧ j < 208 + b * 16 + 16) → s.2.2 j = f j) ∧ (∀ j e, (((aM a b).take k).filter (fun e => !decide (e.1 = o)))[j]? = some e → s.2.2 (208 + b * 16 + j) = pkE e) ∧ (∀ j, k ≤ j → j < 16 → s.2.2 (208 + b * 16 + j) = f (208 + b * 16 + j)))
    (fun r => r.1 = nI ((aM a b).filter (fun e => !decide (e.1 = o))).length ∧ (∀ j, ¬ (208 + b * 16 ≤ j ∧ j < 208 + b * 16 + 16) → r.2 j = f j) ∧ (∀ j e, ((aM a b).filter (fun e => !decide (e.1 = o)))[j]? = some e → r.2 (208 + b * 16 + j) = pkE e)) (by
      rintro k ⟨kp, rk, g⟩ hk ⟨e1, e2, e3, e4, e5⟩
      dsimp only at e1 e2 e3 e4 e5
      subst e1
      subst e2
      rcases Nat.lt_or_ge k (aM a b).length with hlt | hge
      · left
        refine ⟨hlt, ?_⟩
        obtain ⟨e, he⟩ : ∃ e, (aM a b)[k]? = some e := ⟨_, List.getElem?_eq_getElem hlt⟩
        obtain ⟨k1, k2⟩ := inv_ok hi hb (List.mem_of_getElem? he)
        have hfl : (((aM a b).take k).filter (fun e => !decide (e.1 = o))).length ≤ k := Nat.le_trans (List.length_filter_le _ _) (by rw [List.length_take]; omega)
        have htk : (aM a b).take (k + 1) = (aM a b).take k ++ [e] := by rw [List.take_succ, he]; rfl
        have hget : MX3_get g ((208 + nI b * 16) + nI k) = some (pkE e) := by
          rw [ix_208, getN g (by omega), e5 k (Nat.le_refl _) (by omega), h.2.2.2.2 b k e hb he]
        unfold SX3_removeEcho_25
        dsimp only
        rw [if_neg (nI_ge hlt (by omega)), hget, Option.bind_some, own_pk k1, Option.bind_some]
        have := k1.1
        by_cases z : e.1 = o
        · rw [if_pos (by rw [z])]
          refine ⟨_, rfl, nI_1 k, ?_, e3, ?_, fun j p1 p2 => e5 j (by omega) p2⟩
          · rw [htk, List.filter_append]
            simp [z]
          · intro j e' he'
            rw [htk, List.filter_append] at he'
            exact e4 j e' (by simpa [z] using he')
        · rw [if_neg (fun y => z ((nI_eq (by omega) ho).mp y)), ix_208, putN g _ (by omega), Option.bind_some]
          have hft : ((aM a b).take (k + 1)).filter (fun e => !decide (e.1 = o)) = ((aM a b).take k).filter (fun e => !decide (e.1 = o)) ++ [e] := by
            rw [htk, List.filter_append]
            simp [z]
          refine ⟨_, rfl, nI_1 k, ?_, fun j p => ?_, fun j e' he' => ?_, fun j p1 p2 => ?_⟩
          · rw [hft, List.length_append]
            exact nI_1 _
          · dsimp only
            rw [pk_un (by omega)]
            exact e3 j p
          · dsimp only
            rw [hft] at he'
            rcases Nat.lt_or_ge j (((aM a b).take k).filter (fun e => !decide (e.1 = o))).length with hj | hj
            · rw [pk_un (by omega)]
              rw [List.getElem?_append_left hj] at he'
              exact e4 j e' he'
            · rw [List.getElem?_append_right hj] at he'
              have hj2 : j - (((aM a b).take k).filter (fun e => !decide (e.1 = o))).length < 1 := (List.getElem?_eq_some_iff.mp he').1
              have : j = (((aM a b).take k).filter (fun e => !decide (e.1 = o))).length := by omega
              subst this
              rw [Nat.sub_self] at he'
              rw [pk_us]
              exact congrArg pkE (Option.some.inj he')
          · dsimp only
            rw [pk_un (by omega)]
            exact e5 j (by omega) p2
      · right
        have : k = (aM a b).length := by omega
        subst this
        refine ⟨(nI (((aM a b).take (aM a b).length).filter (fun e => !decide (e.1 = o))).length, g), ?_, ?_, e3, ?_⟩
        · unfold SX3_removeEcho_25
          dsimp only
          rw [if_pos (nI_le (Nat.le_refl _) (by omega))]
        · rw [List.take_length]
        · rw [List.take_length] at e4
          exact e4) FU (0, 0, f) (FU_lt (by omega)) ⟨rfl, by rw [List.take_zero]; rfl, fun _ _ => rfl, fun j e he => by simp at he, fun _ _ _ => rfl⟩
  dsimp only at q1 q2 q3
  rw [hg, Option.bind_some]
  dsimp only
  rw [ix_55, putN g _ (by omega), Option.bind_some]
  refine ⟨_, rfl, rC_M h h1.2 hb (len16 hi) (fun j p1 p2 => ?_) ?_ (fun k e he => ?_)⟩
  · rw [pk_un p1]
    exact q2 j p2
  · rw [pk_us]
    exact q1
  · have : k < ((aM a b).filter (fun e => !decide (e.1 = o))).length := (List.getElem?_eq_some_iff.mp he).1
    rw [pk_un (by omega)]
    exact q3 k e he
/-- the first t echoes go -/
theorem C_drop0 (h : RepC a f) (hn : aG a 0 ≤ 9) (hl16 : ∀ q, q < aG a 0 → (aM a q).length ≤ 16) {b t : Nat} (hb : b < aG a 0) (ht : t ≤ (aM a b).length) : ∃ g, MX3_dropFirst f (nI b) (nI t) = some g ∧ RepC (sM a b ((aM a b).drop t)) g := by
  have hl := hl16 b hb
  unfold MX3_dropFirst
  rw [ix_55, getN f (by omega), (h.2.2.1 b hb).2.2.2.2.2, Option.bind_some]
  have hm : (if 0 < nI (aM a b).length - nI t then nI (aM a b).length - nI t else 0) = nI ((aM a b).length - t) := by
    rw [pk_sub ht]
    rcases Nat.eq_zero_or_pos ((aM a b).length - t) with z | z
    · rw [z, if_neg (by decide)]; rfl
    · rw [if_pos (show (0 : Int32) < nI _ from nI_lt (a := 0) z (by omega))]
  obtain ⟨g, hg, q2, q3⟩ := itr_gen (step := SX3_dropFirst_28 (nI (aM a b).length) (nI t) (nI b)) ((aM a b).length - t)
    (fun k s => s.1 = nI k ∧ (∀ j, ¬ (208 + b * 16 ≤ j ∧ j < 208 + b * 16 + 16) → s.2 j = f j) ∧ (∀ j, j < k → s.2 (208 + b * 16 + j) = f (208 + b * 16 + j + t)) ∧ (∀ j, k ≤ j → j < 16 → s.2 (208 + b * 16 + j) = f (208 + b * 16 + j)))
    (fun r => (∀ j, ¬ (208 + b * 16 ≤ j ∧ j < 208 + b * 16 + 16) → r j = f j) ∧ (∀ j, j < (aM a b).length - t → r (208 + b * 16 + j) = f (208 + b * 16 + j + t))) (by
      rintro k ⟨rk, g⟩ hk ⟨e1, e3, e4, e5⟩
      dsimp only at e1 e3 e4 e5
      subst e1
      rcases Nat.lt_or_ge k ((aM a b).length - t) with hlt | hge
      · left
        refine ⟨hlt, ?_⟩
        unfold SX3_dropFirst_28
        dsimp only
        rw [hm, if_neg (nI_ge hlt (by omega)), ix_208, ix_a, getN g (by omega), Option.bind_some, putN g _ (by omega), Option.bind_some]
        refine ⟨_, rfl, nI_1 k, fun j p => ?_, fun j p => ?_, fun j p1 p2 => ?_⟩
        · dsimp only
          rw [pk_un (by omega)]
          exact e3 j p
        · dsimp only
          by_cases z : j = k
          · subst z
            rw [pk_us]
            rcases Nat.eq_zero_or_pos t with zt | zt
            · subst zt
              exact e5 j (Nat.le_refl _) (by omega)
            · have := e5 (j + t) (by omega) (by omega)
              rw [← Nat.add_assoc] at this
              exact this
          · rw [pk_un (by omega)]
            exact e4 j (by omega)
        · dsimp only
          rw [pk_un (by omega)]
          exact e5 j (by omega) p2
      · right
        have : k = (aM a b).length - t := by omega
        subst this
        refine ⟨g, ?_, e3, e4⟩
        unfold SX3_dropFirst_28
        dsimp only
        rw [hm, if_pos (nI_le (Nat.le_refl _) (by omega))]) FU (0, f) (FU_lt (by omega)) ⟨rfl, fun _ _ => rfl, fun j p => absurd p (Nat.not_lt_zero j), fun _ _ _ => rfl⟩
  rw [hg, Option.bind_some, hm, putN g _ (by omega), Option.bind_some]
  refine ⟨_, rfl, rC_M h hn hb hl16 (fun j p1 p2 => ?_) ?_ (fun k e he => ?_)⟩
  · rw [pk_un p1]
    exact q2 j p2
  · rw [pk_us, List.length_drop]
  · rw [List.getElem?_drop] at he
    have : t + k < (aM a b).length := (List.getElem?_eq_some_iff.mp he).1
    rw [pk_un (by omega), q3 k (by omega), show 208 + b * 16 + k + t = 208 + b * 16 + (t + k) by omega]
    exact h.2.2.2.2 b (t + k) e hb he
theorem C_drop (h : RepC a f) (hi : aInv a) {b t : Nat} (hb : b < aG a 0) (ht : t ≤ (aM a b).length) : ∃ g, MX3_dropFirst f (nI b) (nI t) = some g ∧ RepC (sM a b ((aM a b).drop t)) g := C_drop0 h hi.1.2 (len16 hi) hb ht
theorem C_lives_b (h : RepC a f) (hi : aInv a) {b : Nat} (hb : b < aG a 0) : (MX3_lives f (nI b) = some 1 ∧ aF a 1 b = 1) ∨ (MX3_lives f (nI b) = some 0 ∧ aF a 1 b = 0) := by
  have h1 := (hi.2.2.2.2.1 b hb).2.2.2.2.1
  rw [C_lives h hi hb]
  rcases (show aF a 1 b = 0 ∨ aF a 1 b = 1 by omega) with q | q
  · exact Or.inr ⟨by rw [q]; rfl, q⟩
  · exact Or.inl ⟨by rw [q]; rfl, q⟩
theorem nodup_snoc {L : List Nat} {x : Nat} (h : L.Nodup) (hx : x ∉ L) : (L ++ [x]).Nodup := by
  rw [List.nodup_append]
  refine ⟨h, by simp, fun y hy z hz q => ?_⟩
  rw [List.mem_singleton] at hz
  subst hz
  subst q
  exact hx hy
/-- the list behind laying the echo of a cell -/
theorem lay_list (hi : aInv a) {r c b : Nat} (hr : r < aG a 0) (hc : c < 8) (hb : b < aG a 0) (hV : aV a r c ≠ 0) :
    (((aM a b).filter (fun e => !decide (e.1 = 8 * r + c))).drop (((aM a b).filter (fun e => !decide (e.1 = 8 * r + c))).length + 1 - aG a 2) ++ [(8 * r + c, aV a r c - 1, aG a 1)]).length ≤ aG a 2 ∧
    (∀ e ∈ (((aM a b).filter (fun e => !decide (e.1 = 8 * r + c))).drop (((aM a b).filter (fun e => !decide (e.1 = 8 * r + c))).length + 1 - aG a 2) ++ [(8 * r + c, aV a r c - 1, aG a 1)]), e.1 < 8 * aG a 0 ∧ e.2.1 ≤ 999 ∧ e.2.2 ≤ aG a 1) ∧
    ((((aM a b).filter (fun e => !decide (e.1 = 8 * r + c))).drop (((aM a b).filter (fun e => !decide (e.1 = 8 * r + c))).length + 1 - aG a 2) ++ [(8 * r + c, aV a r c - 1, aG a 1)]).map (fun e => e.1)).Nodup := by
  have h2 := hi.2.2.1
  have hVl := inv_V hi hr hc
  generalize hL : (aM a b).filter (fun e => !decide (e.1 = 8 * r + c)) = L1
  have hs1 : L1.Sublist (aM a b) := by rw [← hL]; exact List.filter_sublist
  have hs : (L1.drop (L1.length + 1 - aG a 2)).Sublist (aM a b) := (List.drop_sublist _ _).trans hs1
  refine ⟨?_, fun e he => ?_, ?_⟩
  · rw [List.length_append, List.length_drop]
    show L1.length - _ + 1 ≤ _
    omega
  · rcases List.mem_append.mp he with q | q
    · exact hi.2.2.2.2.2.2.1 b e hb (hs.subset q)
    · rw [List.mem_singleton] at q
      subst q
      exact ⟨by dsimp only; omega, by dsimp only; omega, Nat.le_refl _⟩
  · rw [List.map_append]
    refine nodup_snoc ((hs.map _).nodup (hi.2.2.2.2.2.2.2 b hb)) (fun q => ?_)
    obtain ⟨e, he, hq⟩ := List.mem_map.mp q
    have := List.mem_of_mem_drop he
    rw [← hL, List.mem_filter] at this
    have h3 := this.2
    rw [show decide (e.1 = 8 * r + c) = true from decide_eq_true hq] at h3
    cases h3
theorem lay1_inv (hi : aInv a) {r c b : Nat} (hr : r < aG a 0) (hc : c < 8) (hb : b < aG a 0) : aInv (aLay1 a r c b).2 := by
  unfold aLay1
  split
  · exact hi
  · next q =>
    obtain ⟨g1, g2, g3⟩ := lay_list hi hr hc hb (fun z => q (Or.inl z))
    exact inv_M hi g1 (fun z => absurd (Or.inr z) q) g2 g3
/-- laying the echo of a cell at b -/
theorem C_lay (h : RepC a f) (hi : aInv a) {r c b : Nat} (hr : r < aG a 0) (hc : c < 8) (hb : b < aG a 0) : ∃ g, MX3_layEcho f (nI r) (nI c) (nI b) = some (nI (aLay1 a r c b).1, g) ∧ RepC (aLay1 a r c b).2 g := by
  have h1 := hi.1
  have h2 := hi.2.2.1
  have hVl := inv_V hi hr hc
  have hday := hi.2.1
  unfold MX3_layEcho aLay1
  rw [C_val2 h hi hr hc, Option.bind_some]
  by_cases hV : aV a r c = 0
  · rw [if_pos (Or.inl hV), hV, m1_of0, if_pos rfl]
    exact ⟨f, rfl, h⟩
  · rw [nI_m1 (by omega), if_neg (m1_ne _ (by omega))]
    rcases C_lives_b h hi hb with ⟨e1, e2⟩ | ⟨e1, e2⟩
    · rw [e1, Option.bind_some, if_neg (by decide), if_neg (by rw [e2]; omega), ix_8]
      obtain ⟨g1, q1, q2⟩ := C_remove h hi (o := r * 8 + c) hb (by omega)
      rw [q1, Option.bind_some]
      rw [show r * 8 + c = 8 * r + c by omega] at q2
      generalize hL : (aM a b).filter (fun e => !decide (e.1 = 8 * r + c)) = L1 at q2 ⊢
      have hs1 : L1.Sublist (aM a b) := by rw [← hL]; exact List.filter_sublist
      have hi1 := inv_sub hi hb hs1
      have hlen1 : L1.length ≤ 16 := Nat.le_trans hs1.length_le (inv_len hi hb)
      have hM1 : aM (sM a b L1) b = L1 := aM_s _ _ _
      have hb2 : MX3_get g1 2 = some (nI (aG a 2)) := (C_brs q2 :)
      rw [C_ec q2 hi1 hb, hM1, Option.bind_some, hb2, Option.bind_some, nI_1]
      -- behind the dropping
      have hmid : ∃ g2, (((if nI (L1.length + 1) - nI (aG a 2) ≤ 0 then some g1 else (MX3_dropFirst g1 (nI b) (nI (L1.length + 1) - nI (aG a 2))).bind fun v47 => (MX3_add v47 (46 + nI b) (nI (L1.length + 1) - nI (aG a 2))).bind fun v50 => some v50) : Option (Nat → Int32))) = some g2 ∧ RepC (sD (sM a b (L1.drop (L1.length + 1 - aG a 2))) 3 b (aD a 3 b + nI (L1.length + 1 - aG a 2))) g2 := by
        by_cases z : L1.length + 1 ≤ aG a 2
        · refine ⟨g1, ?_, ?_⟩
          · rw [if_pos]
            apply Int32.le_iff_toInt_le.mpr
            rw [pk_sub_toInt (by omega) (by omega)]
            show ((L1.length + 1 : Nat) : Int) - _ ≤ 0
            omega
          · rw [show L1.length + 1 - aG a 2 = 0 by omega, List.drop_zero, show aD a 3 b + nI 0 = aD a 3 b from Int32.add_zero _]
            have := rC_cr q2 h1.2 (r := b) (aD a 3 b) hb
            have hx : g1 (46 + b) = aD a 3 b := (q2.2.2.1 b hb).2.2.2.2.1
            rwa [upd_same hx] at this
        · have hle : aG a 2 ≤ L1.length + 1 := by omega
          rw [pk_sub hle, if_neg (nI_nle (by omega) (by omega))]
          obtain ⟨g2, p1, p2⟩ := C_drop q2 hi1 (t := L1.length + 1 - aG a 2) hb (by rw [hM1]; omega)
          rw [p1, Option.bind_some, ix_46, addN g2 _ (by omega), Option.bind_some]
          rw [hM1, sM_sM] at p2
          refine ⟨_, rfl, ?_⟩
          rw [(p2.2.2.1 b hb).2.2.2.2.1]
          exact rC_cr p2 h1.2 _ hb
      obtain ⟨g2, p1, p2⟩ := hmid
      rw [p1, Option.bind_some]
      have hi2 : aInv (sM a b (L1.drop (L1.length + 1 - aG a 2))) := inv_sub hi hb ((List.drop_sublist _ _).trans hs1)
      have hi2' : aInv (sD (sM a b (L1.drop (L1.length + 1 - aG a 2))) 3 b (aD a 3 b + nI (L1.length + 1 - aG a 2))) := hi2
      have hM2 : aM (sD (sM a b (L1.drop (L1.length + 1 - aG a 2))) 3 b (aD a 3 b + nI (L1.length + 1 - aG a 2))) b = L1.drop (L1.length + 1 - aG a 2) := aM_s _ _ _
      generalize hL2 : L1.drop (L1.length + 1 - aG a 2) = L2 at p2 hi2 hi2' hM2 ⊢
      have hlen2 : L2.length + 1 ≤ 16 := by
        rw [← hL2, List.length_drop]
        omega
      have hb3 : MX3_get g2 0 = some (nI (aG a 1)) := (C_day p2 :)
      rw [C_ec p2 hi2' hb, hM2, Option.bind_some, hb3, Option.bind_some]
      have hok : okE (8 * r + c, aV a r c - 1, aG a 1) := ⟨by dsimp only; omega, by dsimp only; omega, hday⟩
      show ∃ g, (MX3_echo (nI (r * 8 + c)) (nI (aV a r c - 1)) (nI (aG a 1))).bind _ = _ ∧ _
      rw [show r * 8 + c = 8 * r + c by omega, echo_pk hok, Option.bind_some, ix_208, putN g2 _ (by omega), Option.bind_some, ix_55, addN _ _ (by omega), Option.bind_some]
      rw [show (9 : Int32) = nI 9 from rfl, addN _ _ (by decide), Option.bind_some]
      refine ⟨_, rfl, ?_⟩
      have hlast := rC_M (g := upd (upd g2 (208 + b * 16 + L2.length) (pkE (8 * r + c, aV a r c - 1, aG a 1))) (55 + b) (nI (L2.length + 1))) (L := L2 ++ [(8 * r + c, aV a r c - 1, aG a 1)]) p2 h1.2 hb (len16 hi2') (fun j y1 y2 => by rw [pk_un y1, pk_un (by omega)]) (by rw [pk_us, List.length_append]; rfl) (fun k e he => by
        rw [pk_un (by omega)]
        rcases Nat.lt_or_ge k L2.length with y | y
        · rw [pk_un (by omega)]
          rw [List.getElem?_append_left y] at he
          exact p2.2.2.2.2 b k e hb (by rw [hM2]; exact he)
        · rw [List.getElem?_append_right y] at he
          have y2 : k - L2.length < 1 := (List.getElem?_eq_some_iff.mp he).1
          have : k = L2.length := by omega
          subst this
          rw [Nat.sub_self] at he
          rw [pk_us]
          exact congrArg pkE (Option.some.inj he))
      have hv : (upd g2 (208 + b * 16 + L2.length) (pkE (8 * r + c, aV a r c - 1, aG a 1))) (55 + b) + 1 = nI (L2.length + 1) := by
        rw [pk_un (by omega), (p2.2.2.1 b hb).2.2.2.2.2, hM2, nI_1]
      rw [hv, (hlast.2.1 9 (by decide) (by decide))]
      have hfin := rC_C hlast h1.2 (j := 9) (aC a 9 + 1) (by decide) (by decide)
      have hab : sM (sD (sM a b L2) 3 b (aD a 3 b + nI (L1.length + 1 - aG a 2))) b (L2 ++ [(8 * r + c, aV a r c - 1, aG a 1)]) = sD (sM a b (L2 ++ [(8 * r + c, aV a r c - 1, aG a 1)])) 3 b (aD a 3 b + nI (L1.length + 1 - aG a 2)) := by
        show sD (sM (sM a b L2) b _) 3 b _ = _
        rw [sM_sM]
      rw [hab] at hfin
      exact hfin
    · rw [e1, Option.bind_some, if_pos rfl, if_pos (Or.inr e2)]
      exact ⟨f, rfl, h⟩
end LAY
