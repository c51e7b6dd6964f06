/-! the reference: margins and laying -/
section MLAY
variable {a : Abs} {s : Nat → Int32}
/-- nothing but margins, counts of rows and counters changes -/
def keepW (n : Nat) (g s : Nat → Int32) : Prop := ∀ r k, r < n → 5 ≤ k → k < 29 → g (10 + 77 * r + k) = s (10 + 77 * r + k)
theorem keepW.rfl' {n : Nat} {s : Nat → Int32} : keepW n s s := fun _ _ _ _ _ => rfl
theorem keepW.trans {n : Nat} {s1 s2 s3 : Nat → Int32} (h1 : keepW n s2 s1) (h2 : keepW n s3 s2) : keepW n s3 s1 := fun r k a b c => (h2 r k a b c).trans (h1 r k a b c)
theorem keepW.upd {n : Nat} {g s : Nat → Int32} (h : keepW n g s) {i : Nat} {x : Int32} (hi : ∀ r k, r < n → 5 ≤ k → k < 29 → ¬ 10 + 77 * r + k = i) : keepW n (upd g i x) s := fun r k a b c => by
  rw [pk_un (hi r k a b c)]
  exact h r k a b c
theorem keep_row {n b t : Nat} (ht : t < 5 ∨ (29 ≤ t ∧ t < 77)) : ∀ r k, r < n → 5 ≤ k → k < 29 → ¬ 10 + 77 * r + k = 10 + 77 * b + t := by
  intro r k _ h1 h2 h
  rcases Nat.lt_trichotomy r b with w | w | w
  · omega
  · omega
  · omega
theorem ix4 (b k : Nat) : ((((10 : Int32) + 77 * nI b) + 29) + 3 * nI k) = nI (10 + 77 * b + 29 + 3 * k) := by
  rw [show (10 : Int32) = nI 10 from rfl, show (77 : Int32) = nI 77 from rfl, show (29 : Int32) = nI 29 from rfl, show (3 : Int32) = nI 3 from rfl, pk_mul, pk_mul, nI_add, nI_add, nI_add]
theorem M_drops (h : RepN a s) (hn : aG a 0 ≤ 9) (hl : ∀ q, q < aG a 0 → (aM a q).length ≤ 16) {b k : Nat} (hb : b < aG a 0) (hk : k < (aM a b).length) : ∃ g, MX6_drops s (nI b) (nI k) = some g ∧ RepN (sM a b ((aM a b).eraseIdx k)) g ∧ keepW (aG a 0) g s := by
  have hlen := hl b hb
  unfold MX6_drops
  have hec : MX6_of s (nI b) 4 = some (nI (aM a b).length) := by
    rw [show (4 : Int32) = nI 4 from rfl, M_of s (by omega) (by decide), (h.2.2.1 b hb).2.2.2.2]
  rw [hec, Option.bind_some, ix4]
  obtain ⟨g, hg, q1, q2⟩ := itr_gen (step := SX6_drops_30 (nI b) (nI (aM a b).length)) (3 * ((aM a b).length - k))
    (fun j y => y.1 = nI (10 + 77 * b + 29 + 3 * k + j) ∧ (∀ i, ¬ (10 + 77 * b + 29 + 3 * k ≤ i ∧ i < 10 + 77 * b + 29 + 3 * k + j) → y.2 i = s i) ∧ (∀ i, i < j → 3 * k + i + 3 < 3 * (aM a b).length → y.2 (10 + 77 * b + 29 + 3 * k + i) = s (10 + 77 * b + 29 + 3 * k + i + 3)))
    (fun g => (∀ i, ¬ (10 + 77 * b + 29 + 3 * k ≤ i ∧ i < 10 + 77 * b + 29 + 3 * (aM a b).length) → g i = s i) ∧ (∀ i, 3 * k + i + 3 < 3 * (aM a b).length → g (10 + 77 * b + 29 + 3 * k + i) = s (10 + 77 * b + 29 + 3 * k + i + 3))) (by
      rintro j ⟨x, y⟩ hj ⟨e1, e2, e3⟩
      dsimp only at e1 e2 e3
      subst e1
      unfold SX6_drops_30
      dsimp only
      rw [ix4]
      rcases Nat.lt_or_ge j (3 * ((aM a b).length - k)) with z | z
      · left
        refine ⟨z, ?_⟩
        rw [if_neg (nI_ge (by omega) (by omega)), show (3 : Int32) = nI 3 from rfl, nI_add]
        by_cases w : 10 + 77 * b + 29 + 3 * (aM a b).length ≤ 10 + 77 * b + 29 + 3 * k + j + 3
        · rw [if_pos (nI_le w (by omega)), stM y _ (by omega), Option.bind_some]
          refine ⟨_, rfl, nI_1 _, fun i hi => ?_, fun i hi1 hi2 => ?_⟩
          · dsimp only
            rw [pk_un (by omega)]
            exact e2 i (by omega)
          · dsimp only
            rw [pk_un (by omega)]
            exact e3 i (by omega) hi2
        · rw [if_neg (nI_ge (by omega) (by omega)), ldM y (by omega), Option.bind_some, stM y _ (by omega), Option.bind_some]
          refine ⟨_, rfl, nI_1 _, fun i hi => ?_, fun i hi1 hi2 => ?_⟩
          · dsimp only
            rw [pk_un (by omega)]
            exact e2 i (by omega)
          · dsimp only
            by_cases v : i = j
            · subst v
              rw [pk_us]
              exact e2 _ (by omega)
            · rw [pk_un (by omega)]
              exact e3 i (by omega) hi2
      · right
        have : j = 3 * ((aM a b).length - k) := by omega
        subst this
        rw [if_pos (nI_le (by omega) (by omega))]
        exact ⟨_, rfl, fun i hi => e2 i (by omega), fun i hi => e3 i (by omega) hi⟩) FU (nI (10 + 77 * b + 29 + 3 * k), s) (FU_lt (by omega)) ⟨rfl, fun _ _ => rfl, fun i hi => absurd hi (Nat.not_lt_zero i)⟩
  rw [hg, Option.bind_some]
  have hec2 : MX6_of g (nI b) 4 = some (nI (aM a b).length) := by
    rw [show (4 : Int32) = nI 4 from rfl, M_of g (by omega) (by decide), q1 _ (by omega), (h.2.2.1 b hb).2.2.2.2]
  rw [hec2, Option.bind_some, nI_m1 (by omega), show (4 : Int32) = nI 4 from rfl, M_lays g _ (by omega) (by decide), Option.bind_some]
  refine ⟨_, rfl, rN_M h hn hl hb (fun j p1 p2 => ?_) ?_ (fun i e he => ?_), ?_⟩
  · rw [pk_un p1]
    exact q1 j (by omega)
  · rw [pk_us, List.length_eraseIdx, if_pos hk]
  · rw [List.getElem?_eraseIdx] at he
    by_cases w : i < k
    · rw [if_pos w] at he
      obtain ⟨g1, g2, g3⟩ := h.2.2.2 b i e hb he
      refine ⟨?_, ?_, ?_⟩
      · rw [pk_un (by omega), q1 _ (by omega)]; exact g1
      · rw [pk_un (by omega), q1 _ (by omega)]; exact g2
      · rw [pk_un (by omega), q1 _ (by omega)]; exact g3
    · rw [if_neg w] at he
      have hi2 : i + 1 < (aM a b).length := (List.getElem?_eq_some_iff.mp he).1
      obtain ⟨g1, g2, g3⟩ := h.2.2.2 b (i + 1) e hb he
      have key : ∀ t, t < 3 → g (10 + 77 * b + (29 + 3 * i + t)) = s (10 + 77 * b + (29 + 3 * (i + 1) + t)) := by
        intro t ht
        have := q2 (3 * (i - k) + t) (by omega)
        rw [show 10 + 77 * b + 29 + 3 * k + (3 * (i - k) + t) = 10 + 77 * b + (29 + 3 * i + t) by omega] at this
        rw [this]
        congr 1
        omega
      refine ⟨?_, ?_, ?_⟩
      · rw [pk_un (by omega), key 0 (by omega)]; exact g1
      · rw [pk_un (by omega), key 1 (by omega)]; exact g2
      · rw [pk_un (by omega), key 2 (by omega)]; exact g3
  · refine keepW.upd (fun r t h1 h2 h3 => q1 _ ?_) (keep_row (Or.inl (by decide)))
    rcases Nat.lt_trichotomy r b with w | w | w
    · omega
    · omega
    · omega
theorem erase_filter {L : List Ech} (hn : (L.map (fun e => e.1)).Nodup) {k : Nat} {e : Ech} (he : L[k]? = some e) : L.eraseIdx k = L.filter (fun x => !decide (x.1 = e.1)) := by
  induction L generalizing k with
  | nil => cases he
  | cons x L ih =>
    rw [List.map_cons, List.nodup_cons] at hn
    cases k with
    | zero =>
      obtain rfl := Option.some.inj he
      rw [List.eraseIdx_cons_zero, List.filter_cons_of_neg (by simp)]
      symm
      rw [List.filter_eq_self]
      intro y hy
      have : ¬ y.1 = x.1 := fun q => hn.1 (by rw [← q]; exact List.mem_map.mpr ⟨y, hy, rfl⟩)
      simp [this]
    | succ k =>
      have he' : L[k]? = some e := he
      have : ¬ x.1 = e.1 := fun q => hn.1 (by rw [q]; exact List.mem_map.mpr ⟨e, List.mem_of_getElem? he', rfl⟩)
      rw [List.eraseIdx_cons_succ, List.filter_cons_of_pos (by simp [this]), ih hn.2 he']
theorem M_laysEcho (h : RepN a s) (hw : RepW a s) (hi : aInv a) {r c : Nat} (hr : r < aG a 0) (hc : c < 8) (hlv : aF a 1 r = 1) : ∃ g, MX6_laysEcho s (nI r) (nI c) = some (nI (aLay1 a r c (aHold a r c)).1, g) ∧ RepN (aLay1 a r c (aHold a r c)).2 g ∧ RepW (aLay1 a r c (aHold a r c)).2 g := by
  have h1 := hi.1
  have h2 := hi.2.2.1
  have hVl := inv_V hi hr hc
  have hday := hi.2.1
  have hb := inv_hold hi r c
  unfold MX6_laysEcho aLay1
  rw [M_hold h hi hr hc, Option.bind_some, M_cell hw h1.2 hr hc, if_pos hlv, Option.bind_some]
  generalize hbb : aHold a r c = b at hb ⊢
  by_cases hV : aV a r c = 0
  · rw [if_pos (Or.inl hV), hV, if_pos (by decide)]
    exact ⟨s, rfl, h, hw⟩
  · rw [if_neg (nI_ne0 (by omega) (by omega))]
    rcases M_lives_b h hi hb with ⟨e1, e2⟩ | ⟨e1, e2⟩
    · rw [e1, Option.bind_some, if_neg (by decide), if_neg (by rw [e2]; omega)]
      -- the same cell's echo goes
      have hfirst : ∃ g, (MX6_rankOf s (nI b) (nI r) (nI c)).bind (fun v16 => ((if v16 < 0 then some s else (MX6_drops s (nI b) v16).bind fun v79 => some v79) : Option (Nat → Int32))) = some g ∧ RepN (sM a b ((aM a b).filter (fun e => !decide (e.1 = 8 * r + c)))) g ∧ keepW (aG a 0) g s := by
        rcases M_rank h hi (o := 8 * r + c) hb rfl (by omega) hc with ⟨k, e, g1, g2, g3⟩ | ⟨g1, g2⟩
        · have hk : k < (aM a b).length := (List.getElem?_eq_some_iff.mp g1).1
          have hl := inv_len hi hb
          obtain ⟨g, p1, p2, p3⟩ := M_drops h h1.2 (len16 hi) hb hk
          rw [g3, Option.bind_some, if_neg (nI_pos (by omega)), p1, Option.bind_some]
          refine ⟨g, rfl, ?_, p3⟩
          rw [← g2, ← erase_filter (hi.2.2.2.2.2.2.2 b hb) g1]
          exact p2
        · rw [g2, Option.bind_some, if_pos nf_neg]
          refine ⟨s, rfl, ?_, keepW.rfl'⟩
          rw [show (aM a b).filter (fun e => !decide (e.1 = 8 * r + c)) = aM a b from List.filter_eq_self.mpr (fun e he => by simp [g1 e he])]
          refine RepN_congr h (fun _ => rfl) (fun _ => rfl) (fun _ _ => rfl) (fun _ _ => rfl) (fun q => ?_)
          by_cases z : q = b
          · subst z; exact aM_s _ _ _
          · exact aM_r _ _ z
      obtain ⟨g1, p1, p2, p3⟩ := hfirst
      obtain ⟨v16, p0, p1⟩ := bnd p1
      rw [p0, Option.bind_some, p1, Option.bind_some]
      generalize hL : (aM a b).filter (fun e => !decide (e.1 = 8 * r + c)) = L1 at p2 ⊢
      have hs1 : L1.Sublist (aM a b) := by rw [← hL]; exact List.filter_sublist
      have hlen1 : L1.length ≤ 16 := Nat.le_trans hs1.length_le (inv_len hi hb)
      have hl16 : ∀ j q, q < aG a 0 → (aM (sD (sM a b (L1.drop j)) 3 b (aD a 3 b + nI j)) q).length ≤ 16 := by
        intro j q hq
        show (aM (sM a b (L1.drop j)) q).length ≤ 16
        by_cases z : q = b
        · subst z; rw [aM_s, List.length_drop]; omega
        · rw [aM_r _ _ z]; exact inv_len hi hq
      obtain ⟨g2, r1, r2, r3⟩ := itr_gen (step := SX6_laysEcho_49 (nI b)) (L1.length + 1 - aG a 2)
        (fun j g => RepN (sD (sM a b (L1.drop j)) 3 b (aD a 3 b + nI j)) g ∧ keepW (aG a 0) g s)
        (fun g => RepN (sD (sM a b (L1.drop (L1.length + 1 - aG a 2))) 3 b (aD a 3 b + nI (L1.length + 1 - aG a 2))) g ∧ keepW (aG a 0) g s) (by
          rintro j g hj ⟨k1, k2⟩
          unfold SX6_laysEcho_49
          have hMj : aM (sD (sM a b (L1.drop j)) 3 b (aD a 3 b + nI j)) b = L1.drop j := aM_s _ _ _
          have hec : MX6_of g (nI b) 4 = some (nI (L1.length - j)) := by
            rw [show (4 : Int32) = nI 4 from rfl, M_of g (by omega) (by decide), (k1.2.2.1 b hb).2.2.2.2, hMj, List.length_drop]
          have hbr : ldA 703 g 2 = some (nI (aG a 2)) := (M_brs k1 :)
          rw [hec, Option.bind_some, hbr, Option.bind_some]
          rcases Nat.lt_or_ge j (L1.length + 1 - aG a 2) with z | z
          · left
            refine ⟨z, ?_⟩
            obtain ⟨g', m1, m2, m3⟩ := M_drops k1 h1.2 (hl16 j) (b := b) (k := 0) hb (by rw [hMj, List.length_drop]; omega)
            rw [if_neg (nI_nlt (by omega) (by omega)), show (0 : Int32) = nI 0 from rfl, m1, Option.bind_some, show (3 : Int32) = nI 3 from rfl, M_adds g' (by omega) (by decide), Option.bind_some]
            refine ⟨_, rfl, ?_, (k2.trans m3).upd (keep_row (Or.inl (by decide)))⟩
            have hd : g' (10 + 77 * b + 3) = aD a 3 b + nI j := ((m2.2.2.1 b hb).2.2.2.1).trans (aD_s _ _ _ _)
            rw [hd]
            have k3 := rN_cr m2 h1.2 (fun q hq => by
              by_cases y : q = b
              · subst y; rw [aM_s, hMj, List.length_eraseIdx]; have := hl16 j q hq; rw [hMj] at this; split <;> omega
              · rw [aM_r _ _ y]; exact hl16 j q hq) (r := b) (aD a 3 b + nI j + 1) hb
            refine RepN_congr k3 (fun _ => rfl) (fun _ => rfl) (fun _ _ => rfl) (fun i q => ?_) (fun q => ?_)
            · show up2 _ 3 b (aD a 3 b + nI (j + 1)) i q = up2 (up2 _ 3 b (aD a 3 b + nI j)) 3 b (aD a 3 b + nI j + 1) i q
              by_cases y : i = 3 ∧ q = b
              · obtain ⟨rfl, rfl⟩ := y
                rw [up2_s, up2_s, ← nI_1, Int32.add_assoc]
              · rw [up2_n _ _ y, up2_n _ _ y, up2_n _ _ y]
                rfl
            · show up1 _ b (L1.drop (j + 1)) q = up1 (up1 _ b (L1.drop j)) b ((aM (sD (sM a b (L1.drop j)) 3 b (aD a 3 b + nI j)) b).eraseIdx 0) q
              by_cases y : q = b
              · subst y
                rw [up1_s, up1_s, hMj, List.eraseIdx_zero, List.tail_drop]
              · rw [up1_n _ _ y, up1_n _ _ y, up1_n _ _ y]
          · right
            have : j = L1.length + 1 - aG a 2 := by omega
            subst this
            rw [if_pos (nI_lt (by omega) (by omega))]
            exact ⟨g, rfl, k1, k2⟩) FU g1 (FU_lt (by omega)) ⟨by
              rw [List.drop_zero, show aD a 3 b + nI 0 = aD a 3 b from Int32.add_zero _]
              refine RepN_congr p2 (fun _ => rfl) (fun _ => rfl) (fun _ _ => rfl) (fun i q => ?_) (fun _ => rfl)
              show up2 _ 3 b (aD a 3 b) i q = aD a i q
              by_cases y : i = 3 ∧ q = b
              · obtain ⟨rfl, rfl⟩ := y
                rw [up2_s]
              · rw [up2_n _ _ y]; rfl, p3⟩
      rw [r1, Option.bind_some]
      generalize hL2 : L1.drop (L1.length + 1 - aG a 2) = L2 at r2 ⊢
      have hlen2 : L2.length + 1 ≤ 16 := by
        rw [← hL2, List.length_drop]
        omega
      have hl2 : ∀ q, q < aG a 0 → (aM (sD (sM a b L2) 3 b (aD a 3 b + nI (L1.length + 1 - aG a 2))) q).length ≤ 16 := by
        have := hl16 (L1.length + 1 - aG a 2)
        rw [hL2] at this
        exact this
      have hM2 : aM (sD (sM a b L2) 3 b (aD a 3 b + nI (L1.length + 1 - aG a 2))) b = L2 := aM_s _ _ _
      have hec : MX6_of g2 (nI b) 4 = some (nI L2.length) := by
        rw [show (4 : Int32) = nI 4 from rfl, M_of g2 (by omega) (by decide), (r2.2.2.1 b hb).2.2.2.2, hM2]
      have ix29 : (29 : Int32) + 3 * nI L2.length = nI (29 + 3 * L2.length) := by
        rw [show (29 : Int32) = nI 29 from rfl, show (3 : Int32) = nI 3 from rfl, pk_mul, nI_add]
      rw [hec, Option.bind_some, ix29, ix8, show (5 : Int32) = nI 5 from rfl, show (1 : Int32) = nI 1 from rfl, show (2 : Int32) = nI 2 from rfl, nI_add, nI_add, nI_add]
      have hne : ∀ t, 29 ≤ t → t < 77 → ¬ 10 + 77 * r + (5 + c) = 10 + 77 * b + t := fun t y1 y2 => keep_row (n := aG a 0) (Or.inr ⟨y1, y2⟩) r (5 + c) hr (by omega) (by omega)
      have hcell : MX6_of (upd g2 (10 + 77 * b + (29 + 3 * L2.length)) (nI (8 * r + c))) (nI r) (nI (5 + c)) = some (nI (aV a r c)) := by
        rw [M_of _ (by omega) (by omega), pk_un (hne _ (by omega) (by omega)), r3 r (5 + c) hr (by omega) (by omega), (hw r c hr hc).1, if_pos hlv]
      rw [M_lays g2 _ (by omega) (by omega), Option.bind_some, hcell, Option.bind_some, show nI (aV a r c) - nI 1 = nI (aV a r c - 1) from nI_m1 (by omega), M_lays _ _ (by omega) (by omega), Option.bind_some]
      rw [show (nI 1 : Int32) = nI 1 from rfl, ldM _ (by decide), Option.bind_some, pk_un (by omega), pk_un (by omega), show g2 1 = nI (aG a 1) from r2.1.1, M_lays _ _ (by omega) (by omega), Option.bind_some, show (4 : Int32) = nI 4 from rfl, M_adds _ (by omega) (by decide), Option.bind_some, show (9 : Int32) = nI 9 from rfl, ldM _ (by decide), Option.bind_some, stM _ _ (by decide), Option.bind_some]
      refine ⟨_, rfl, ?_, ?_⟩
      · have hlast := rN_M (g := upd (upd (upd (upd g2 (10 + 77 * b + (29 + 3 * L2.length)) (nI (8 * r + c))) (10 + 77 * b + (29 + 3 * L2.length + 1)) (nI (aV a r c - 1))) (10 + 77 * b + (29 + 3 * L2.length + 2)) (nI (aG a 1))) (10 + 77 * b + 4) (nI (L2.length + 1))) (L := L2 ++ [(8 * r + c, aV a r c - 1, aG a 1)]) r2 h1.2 hl2 (r := b) hb (fun j y1 y2 => by rw [pk_un y1, pk_un (by omega), pk_un (by omega), pk_un (by omega)]) (by rw [pk_us, List.length_append]; rfl) (fun k e he => by
          rcases Nat.lt_or_ge k L2.length with y | y
          · rw [List.getElem?_append_left y] at he
            obtain ⟨w1, w2, w3⟩ := r2.2.2.2 b k e hb (by rw [hM2]; exact he)
            refine ⟨?_, ?_, ?_⟩
            · rw [pk_un (by omega), pk_un (by omega), pk_un (by omega), pk_un (by omega)]; exact w1
            · rw [pk_un (by omega), pk_un (by omega), pk_un (by omega), pk_un (by omega)]; exact w2
            · rw [pk_un (by omega), pk_un (by omega), pk_un (by omega), pk_un (by omega)]; exact w3
          · rw [List.getElem?_append_right y] at he
            have y2 : k - L2.length < 1 := (List.getElem?_eq_some_iff.mp he).1
            have : k = L2.length := by omega
            subst this
            rw [Nat.sub_self] at he
            obtain rfl := Option.some.inj he
            refine ⟨?_, ?_, ?_⟩
            · rw [pk_un (by omega), pk_un (by omega), pk_un (by omega), Nat.add_zero, pk_us]
            · rw [pk_un (by omega), pk_un (by omega), pk_us]
            · rw [pk_un (by omega), pk_us])
        have hv : (upd (upd (upd g2 (10 + 77 * b + (29 + 3 * L2.length)) (nI (8 * r + c))) (10 + 77 * b + (29 + 3 * L2.length + 1)) (nI (aV a r c - 1))) (10 + 77 * b + (29 + 3 * L2.length + 2)) (nI (aG a 1))) (10 + 77 * b + 4) + 1 = nI (L2.length + 1) := by
          rw [pk_un (by omega), pk_un (by omega), pk_un (by omega), (r2.2.2.1 b hb).2.2.2.2, hM2, nI_1]
        rw [hv, hlast.2.1 9 (by decide) (by decide)]
        have hab : sM (sD (sM a b L2) 3 b (aD a 3 b + nI (L1.length + 1 - aG a 2))) b (L2 ++ [(8 * r + c, aV a r c - 1, aG a 1)]) = sD (sM a b (L2 ++ [(8 * r + c, aV a r c - 1, aG a 1)])) 3 b (aD a 3 b + nI (L1.length + 1 - aG a 2)) := by
          show sD (sM (sM a b L2) b _) 3 b _ = _
          rw [sM_sM]
        rw [hab] at hlast
        refine rN_C hlast h1.2 (fun q hq => ?_) (j := 9) (aC a 9 + 1) (by decide) (by decide)
        show (aM (sM a b _) q).length ≤ 16
        by_cases z : q = b
        · subst z; rw [aM_s, List.length_append]; exact hlen2
        · rw [aM_r _ _ z]; exact inv_len hi hq
      · refine rW_o hw h1.2 rfl (fun _ => rfl) rfl rfl (fun p k y1 y2 y3 => ?_)
        have hk := keep_row (n := aG a 0) (b := b) (t := 4) (Or.inl (by decide)) p k y1 y2 y3
        have hk0 := keep_row (n := aG a 0) (b := b) (t := 29 + 3 * L2.length) (Or.inr ⟨by omega, by omega⟩) p k y1 y2 y3
        have hk1 := keep_row (n := aG a 0) (b := b) (t := 29 + 3 * L2.length + 1) (Or.inr ⟨by omega, by omega⟩) p k y1 y2 y3
        have hk2 := keep_row (n := aG a 0) (b := b) (t := 29 + 3 * L2.length + 2) (Or.inr ⟨by omega, by omega⟩) p k y1 y2 y3
        rw [pk_un (by omega), pk_un hk, pk_un hk2, pk_un hk1, pk_un hk0]
        exact r3 p k y1 y2 y3
    · rw [e1, Option.bind_some, if_pos rfl, if_pos (Or.inr e2)]
      exact ⟨s, rfl, h, hw⟩
end MLAY
