/-! the class: losing, mending, settings, beginning anew -/
section OPS2
variable {a : Abs} {f : Nat → Int32}
theorem C_lose (h : RepC a f) (hi : aInv a) {r : Nat} (hr : r < aG a 0) (hl : aF a 1 r = 1) : ∃ g, MX3_loseRow f (nI r) = some (nI (aLose a r).1, g) ∧ RepC (aLose a r).2 g := by
  have hn := hi.1
  unfold MX3_loseRow
  rcases C_hasRow h hi (nI r) with ⟨-, q⟩ | ⟨r2, e1, e2, e3⟩
  · exact absurd ⟨r, hr, rfl⟩ q
  rw [e3, Option.bind_some, if_neg (by decide), C_lives h hi hr, if_pos hl, Option.bind_some, if_neg (by decide), C_back h hi hr, Option.bind_some]
  obtain ⟨g, hg, q1⟩ := itr_gen (step := SX3_loseRow_30 (nI r)) 8
    (fun k s => s.1 = nI k ∧ RepC (sWr a r (fun c => if c < k then 0 else aW a r c)) s.2)
    (fun g => RepC (sWr a r (fun _ => 0)) g) (by
      rintro k ⟨x, g⟩ hk ⟨q1, q2⟩
      dsimp only at q1 q2
      subst q1
      unfold SX3_loseRow_30
      dsimp only
      rcases Nat.lt_or_ge k 8 with z | z
      · left
        refine ⟨z, ?_⟩
        rw [if_neg (show ¬ (8 : Int32) ≤ nI k from nI_ge (b := 8) z (by decide)), show (136 : Int32) = nI 136 from rfl, ix_8k, putN g _ (by omega), Option.bind_some]
        refine ⟨_, rfl, nI_1 k, ?_⟩
        refine RepC_congr (rC_W q2 hn.2 (r := r) (c := k) 0 hr z) (fun _ => rfl) (fun _ => rfl) (fun _ _ => rfl) (fun _ _ => rfl) (fun _ _ _ => rfl) (fun p c hc => ?_) (fun _ => rfl)
        show (if p = r then (if c < k + 1 then 0 else aW a r c) else aW a p c) = up2 (fun p c => if p = r then (if c < k then 0 else aW a r c) else aW a p c) r k 0 p c
        by_cases zz : p = r ∧ c = k
        · obtain ⟨rfl, rfl⟩ := zz
          rw [up2_s, if_pos rfl, if_pos (by omega)]
        · rw [up2_n _ _ zz]
          by_cases z1 : p = r
          · rw [if_pos z1, if_pos z1]
            by_cases z3 : c < k
            · rw [if_pos z3, if_pos (by omega)]
            · rw [if_neg z3, if_neg (fun y => zz ⟨z1, by omega⟩)]
          · rw [if_neg z1, if_neg z1]
      · right
        have : k = 8 := by omega
        subst this
        rw [if_pos (by decide)]
        refine ⟨_, rfl, RepC_congr q2 (fun _ => rfl) (fun _ => rfl) (fun _ _ => rfl) (fun _ _ => rfl) (fun _ _ _ => rfl) (fun p c hc => ?_) (fun _ => rfl)⟩
        show (if p = r then 0 else aW a p c) = (if p = r then (if c < 8 then 0 else aW a r c) else aW a p c)
        rw [if_pos hc]) FU (0, f) (FU_lt (by decide)) ⟨rfl, RepC_congr h (fun _ => rfl) (fun _ => rfl) (fun _ _ => rfl) (fun _ _ => rfl) (fun _ _ _ => rfl) (fun p c hc => by
        show (if p = r then (if c < 0 then 0 else aW a r c) else aW a p c) = aW a p c
        rw [if_neg (Nat.not_lt_zero c)]
        split
        · next z => rw [z]
        · rfl) (fun _ => rfl)⟩
  rw [hg, Option.bind_some]
  rw [show (28 : Int32) = nI 28 from rfl, show (37 : Int32) = nI 37 from rfl, show (5 : Int32) = nI 5 from rfl, ix_a, putN g _ (by omega), Option.bind_some, ix_55, putN _ _ (by omega), Option.bind_some, ix_a, addN _ _ (by omega), Option.bind_some, addN _ _ (by decide), Option.bind_some]
  have k1 := rC_lv q1 hn.2 (r := r) 0 hr
  have hl1 : ∀ q, q < aG a 0 → (aM a q).length ≤ 16 := len16 hi
  have k2 := rC_M (g := upd (upd g (28 + r) (nI 0)) (55 + r) (nI 0)) (L := []) k1 hn.2 (r := r) hr hl1 (fun j y1 y2 => by rw [pk_un y1]) pk_us (fun k e he => by cases he)
  have k3 := rC_tl k2 hn.2 (r := r) (aD a 2 r + 1) hr
  have k4 := rC_C k3 hn.2 (j := 5) (aC a 5 + 1) (by decide) (by decide)
  have h1 : (upd (upd g (28 + r) (nI 0)) (55 + r) (nI 0)) (37 + r) = aD a 2 r := (k2.2.2.1 r hr).2.2.2.1
  have h2 : (upd (upd (upd g (28 + r) (nI 0)) (55 + r) (nI 0)) (37 + r) (aD a 2 r + 1)) 5 = aC a 5 := k3.2.1 5 (by decide) (by decide)
  rw [show (0 : Int32) = nI 0 from rfl, h1, h2]
  exact ⟨_, rfl, k4⟩
theorem C_set (h : RepC a f) (hi : aInv a) {w x : Nat} (hw : w ≤ 1) (h1 : 1 ≤ x) (h2 : x ≤ if w = 0 then 16 else 99) : ∃ g, MX3_changeSetting f (nI w) (nI x) = some (nI (aSet a w x).1, g) ∧ RepC (aSet a w x).2 g := by
  have hn := hi.1
  have hb := hi.2.2.1
  have hx99 : x ≤ 99 := by split at h2 <;> omega
  unfold MX3_changeSetting
  rw [if_neg (nI_pos (by omega)), if_neg (show ¬ (1 : Int32) < nI w from nI_nlt (a := 1) hw (by omega)), if_neg (show ¬ nI x < 1 from nI_nlt (b := 1) h1 (by omega))]
  have hj : ((if nI w = 0 then some 16 else some 99 : Option Int32)) = some (nI (if w = 0 then 16 else 99)) := by
    rcases (show w = 0 ∨ w = 1 by omega) with rfl | rfl <;> rfl
  rw [hj, Option.bind_some, if_pos (nI_le h2 (by split <;> omega)), show (2 : Int32) = nI 2 from rfl, ix_a, getN f (by omega), Option.bind_some, putN f _ (by omega), Option.bind_some]
  have hold : f (2 + w) = nI (aG a (2 + w)) := by
    rcases (show w = 0 ∨ w = 1 by omega) with rfl | rfl
    · exact h.1.2.2.1
    · exact h.1.2.2.2
  have k0 : RepC (sG a (2 + w) x) (upd f (2 + w) (nI x)) := by
    rcases (show w = 0 ∨ w = 1 by omega) with rfl | rfl
    · exact rC_brs h hn.2 x
    · exact rC_fds h hn.2 x
  have hG0 : aG (sG a (2 + w) x) 0 = aG a 0 := aG_r _ _ (by omega)
  generalize hB : aG (sG a (2 + w) x) 2 = B
  have hB1 : 1 ≤ B ∧ B ≤ 16 := by
    rw [← hB]
    rcases (show w = 0 ∨ w = 1 by omega) with rfl | rfl
    · rw [if_pos rfl] at h2
      exact ⟨by rw [aG_s]; exact h1, by rw [aG_s]; exact h2⟩
    · rw [aG_r _ _ (by decide)]
      exact hb
  obtain ⟨g, hg, q1⟩ := itr_gen (step := SX3_changeSetting_51) (aG a 0)
    (fun k s => s.1 = nI k ∧ RepC (sMall (sG a (2 + w) x) (fun r => if r < k then (aM a r).drop ((aM a r).length - B) else aM a r)) s.2)
    (fun g => RepC (sMall (sG a (2 + w) x) (fun r => (aM a r).drop ((aM a r).length - B))) g) (by
      rintro k ⟨y, g⟩ hk ⟨q1, q2⟩
      dsimp only at q1 q2
      subst q1
      unfold SX3_changeSetting_51
      dsimp only
      have hget : MX3_get g 1 = some (nI (aG a 0)) := by
        have := C_n q2
        rw [show aG (sMall (sG a (2 + w) x) (fun r => if r < k then (aM a r).drop ((aM a r).length - B) else aM a r)) 0 = aG a 0 from hG0] at this
        exact this
      have hget2 : MX3_get g 2 = some (nI B) := by
        have := C_brs q2
        rw [show aG (sMall (sG a (2 + w) x) (fun r => if r < k then (aM a r).drop ((aM a r).length - B) else aM a r)) 2 = B from hB] at this
        exact this
      have hl16 : ∀ q, q < aG a 0 → (if q < k then (aM a q).drop ((aM a q).length - B) else aM a q).length ≤ 16 := by
        intro q hq
        have := inv_len hi hq
        split
        · rw [List.length_drop]; omega
        · exact this
      rw [hget, Option.bind_some]
      rcases Nat.lt_or_ge k (aG a 0) with z | z
      · left
        refine ⟨z, ?_⟩
        have hk2 : k < aG (sMall (sG a (2 + w) x) (fun r => if r < k then (aM a r).drop ((aM a r).length - B) else aM a r)) 0 := by
          show k < aG (sG a (2 + w) x) 0
          rw [hG0]; exact z
        have hMk : aM (sMall (sG a (2 + w) x) (fun r => if r < k then (aM a r).drop ((aM a r).length - B) else aM a r)) k = aM a k := if_neg (Nat.lt_irrefl k)
        have hec : MX3_get g (55 + nI k) = some (nI (aM a k).length) := by
          rw [ix_55, getN g (by omega), (q2.2.2.1 k hk2).2.2.2.2.2, hMk]
        have hlen := inv_len hi z
        rw [if_neg (nI_ge z (by omega)), hec, Option.bind_some, hget2, Option.bind_some]
        by_cases y : (aM a k).length ≤ B
        · rw [if_pos (by
            apply Int32.le_iff_toInt_le.mpr
            rw [pk_sub_toInt (by omega) (by omega)]
            show ((aM a k).length : Int) - _ ≤ 0
            omega)]
          refine ⟨_, rfl, nI_1 k, RepC_congr q2 (fun _ => rfl) (fun _ => rfl) (fun _ _ => rfl) (fun _ _ => rfl) (fun _ _ _ => rfl) (fun _ _ _ => rfl) (fun p => ?_)⟩
          show (if p < k + 1 then (aM a p).drop ((aM a p).length - B) else aM a p) = (if p < k then (aM a p).drop ((aM a p).length - B) else aM a p)
          by_cases y2 : p = k
          · subst y2
            rw [if_pos (by omega), if_neg (Nat.lt_irrefl p), show (aM a p).length - B = 0 by omega, List.drop_zero]
          · by_cases y3 : p < k
            · rw [if_pos y3, if_pos (by omega)]
            · rw [if_neg y3, if_neg (by omega)]
        · rw [pk_sub (by omega), if_neg (nI_nle (by omega) (by omega))]
          have hn9 : aG (sMall (sG a (2 + w) x) (fun r => if r < k then (aM a r).drop ((aM a r).length - B) else aM a r)) 0 ≤ 9 := by
            show aG (sG a (2 + w) x) 0 ≤ 9
            rw [hG0]; exact hn.2
          obtain ⟨g', p1, p2⟩ := C_drop0 q2 hn9 (fun q hq => hl16 q (by rw [← hG0]; exact hq)) (b := k) (t := (aM a k).length - B) hk2 (by rw [hMk]; omega)
          rw [p1, Option.bind_some]
          refine ⟨_, rfl, nI_1 k, RepC_congr p2 (fun _ => rfl) (fun _ => rfl) (fun _ _ => rfl) (fun _ _ => rfl) (fun _ _ _ => rfl) (fun _ _ _ => rfl) (fun p => ?_)⟩
          rw [hMk]
          show (if p < k + 1 then (aM a p).drop ((aM a p).length - B) else aM a p) = up1 (fun p => if p < k then (aM a p).drop ((aM a p).length - B) else aM a p) k ((aM a k).drop ((aM a k).length - B)) p
          unfold up1
          by_cases y2 : p = k
          · subst y2
            rw [if_pos (by omega), if_pos rfl]
          · rw [if_neg y2]
            show _ = (if p < k then (aM a p).drop ((aM a p).length - B) else aM a p)
            by_cases y3 : p < k
            · rw [if_pos y3, if_pos (by omega)]
            · rw [if_neg y3, if_neg (by omega)]
      · right
        have : k = aG a 0 := by omega
        subst this
        rw [if_pos (nI_le (Nat.le_refl _) (by omega))]
        refine ⟨_, rfl, ?_⟩
        obtain ⟨w1, w2, w3, w4, w5⟩ := q2
        have hG1 : ∀ r, r < aG (sG a (2 + w) x) 0 → r < aG a 0 := fun r hr => by rw [← hG0]; exact hr
        refine ⟨w1, w2, fun r hr => ?_, w4, fun r k e hr he => ?_⟩
        · have := w3 r hr
          refine ⟨this.1, this.2.1, this.2.2.1, this.2.2.2.1, this.2.2.2.2.1, this.2.2.2.2.2.trans ?_⟩
          show nI (if r < aG a 0 then (aM a r).drop ((aM a r).length - B) else aM a r).length = _
          rw [if_pos (hG1 r hr)]
          rfl
        · refine w5 r k e hr ?_
          show (if r < aG a 0 then (aM a r).drop ((aM a r).length - B) else aM a r)[k]? = some e
          rw [if_pos (hG1 r hr)]
          exact he) FU (0, upd f (2 + w) (nI x)) (FU_lt (by omega)) ⟨rfl, RepC_congr k0 (fun _ => rfl) (fun _ => rfl) (fun _ _ => rfl) (fun _ _ => rfl) (fun _ _ _ => rfl) (fun _ _ _ => rfl) (fun p => show (if p < 0 then (aM a p).drop ((aM a p).length - B) else aM a p) = aM a p from if_neg (Nat.not_lt_zero p))⟩
  rw [hg, Option.bind_some, hold]
  refine ⟨g, rfl, ?_⟩
  show RepC (sMall (sG a (2 + w) x) (fun r => (aM a r).drop ((aM a r).length - aG (sG a (2 + w) x) 2))) g
  rw [hB]
  exact q1
end OPS2
