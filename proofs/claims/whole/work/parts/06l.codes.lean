/-! the reference's way through all orders -/
theorem d_order : ∀ m, m < 5 → ∀ c, c < 4 ^ m → MX6_isOrder (nI m) (nI c) = some (if (digs m c).Nodup ∧ ∀ d ∈ digs m c, d < m then 1 else 0) := by decide +kernel
theorem d_digit : ∀ m, m < 5 → ∀ k, k < m → ∀ c, c < 256 → (nI c >>> ((2 * ((nI m - 1) - nI k)) &&& 31)) &&& 3 = nI (c / 4 ^ (m - 1 - k) % 4) := by decide +kernel
theorem d_all : ∀ m, m < 5 → (1 : Int32) <<< ((2 * nI m) &&& 31) = nI (4 ^ m) := by decide +kernel
theorem digs_len (c : Nat) : ∀ m, (digs m c).length = m
  | 0 => rfl
  | m + 1 => by
    show (digs m c).length + 1 = m + 1
    rw [digs_len c m]
theorem digs_get (c : Nat) : ∀ m k, k < m → (digs m c)[k]? = some (c / 4 ^ (m - 1 - k) % 4)
  | 0, k, h => absurd h (Nat.not_lt_zero k)
  | m + 1, 0, _ => rfl
  | m + 1, k + 1, h => by
    show (digs m c)[k]? = _
    rw [digs_get c m k (by omega), show m + 1 - 1 - (k + 1) = m - 1 - k by omega]
theorem nodup_of_map {α β : Type} (f : α → β) {l : List α} (h : (l.map f).Nodup) : l.Nodup := List.Pairwise.of_map (R := (· ≠ ·)) (S := (· ≠ ·)) f (fun _ _ h e => h (by rw [e])) h
theorem dig_ok {L : List Nat} {J : Nat} (hn : L.Nodup) (hJ : J ∉ L) (D : List Nat) : ordOK L (D.map (fun d => L.getD d J)) ↔ D.Nodup ∧ ∀ d ∈ D, d < L.length := by
  have hin : ∀ d, d < L.length → L.getD d J = L[d]! := by
    intro d hd
    rw [List.getD_eq_getElem?_getD, getElem!_pos L d hd, List.getElem?_eq_getElem hd]
    rfl
  constructor
  · intro h
    refine ⟨nodup_of_map _ h.1, fun d hd => ?_⟩
    have := h.2 _ (List.mem_map_of_mem (f := fun d => L.getD d J) hd)
    rcases Nat.lt_or_ge d L.length with w | w
    · exact w
    · rw [List.getD_eq_getElem?_getD, List.getElem?_eq_none w] at this
      exact absurd this hJ
  · intro h
    refine ⟨?_, fun r hr => ?_⟩
    · refine List.pairwise_map.mpr (List.Pairwise.imp_of_mem (fun {x y} hx hy e w => ?_) h.1)
      have hx' := h.2 x hx
      have hy' := h.2 y hy
      rw [List.getD_eq_getElem?_getD, List.getD_eq_getElem?_getD, List.getElem?_eq_getElem hx', List.getElem?_eq_getElem hy'] at w
      exact e ((List.getElem_inj hn).mp w)
    · obtain ⟨d, hd, rfl⟩ := List.mem_map.mp hr
      have hd' := h.2 d hd
      rw [List.getD_eq_getElem?_getD, List.getElem?_eq_getElem hd']
      exact List.getElem_mem hd'
theorem M_copies {n0 n2 o1 o3 : Nat} (f g : Nat → Int32) (h0 : n0 < 2 ^ 31) (h2 : n2 < 2 ^ 31) (h1 : o1 + 703 ≤ n0) (h3 : o3 + 703 ≤ n2) : ∃ v, MX6_copies n0 n2 f g (nI o1) (nI o3) = some v ∧ (∀ j, j < 703 → v (o3 + j) = f (o1 + j)) ∧ ∀ j, j < o3 ∨ o3 + 703 ≤ j → v j = g j := by
  unfold MX6_copies
  rw [show itr (SX6_copies_3 n0 f (nI o1) n2 (nI o3)) FU (0, g) = some (fun j => if o3 ≤ j ∧ j < o3 + 703 then f (o1 + (j - o3)) else g j) from by
    have e0 : g = (fun j => if o3 ≤ j ∧ j < o3 + 0 then f (o1 + (j - o3)) else g j) := funext fun j => (if_neg (by omega)).symm
    have := itr_for (step := SX6_copies_3 n0 f (nI o1) n2 (nI o3)) 703 (fun k => (nI k, fun j => if o3 ≤ j ∧ j < o3 + k then f (o1 + (j - o3)) else g j)) (fun j => if o3 ≤ j ∧ j < o3 + 703 then f (o1 + (j - o3)) else g j) (fun k hk => by
      unfold SX6_copies_3
      dsimp only
      rw [if_neg (show ¬ (703 : Int32) ≤ nI k from nI_ge (b := 703) hk (by omega)), nI_add, nI_add, ldA_nI (by omega) h0, Option.bind_some, stA_nI _ (by omega) h2, Option.bind_some, nI_1]
      congr 3
      funext j
      by_cases y : j = o3 + k
      · subst y
        rw [pk_us, if_pos ⟨by omega, by omega⟩, show o3 + k - o3 = k by omega]
      · rw [pk_un y]
        by_cases z : o3 ≤ j ∧ j < o3 + k
        · rw [if_pos z, if_pos ⟨z.1, by omega⟩]
        · rw [if_neg z, if_neg (by omega)]) (by
      unfold SX6_copies_3
      dsimp only
      rw [if_pos (show (703 : Int32) ≤ nI 703 from by decide)]) FU (FU_lt (by decide))
    rw [← e0] at this
    exact this, Option.bind_some]
  refine ⟨_, rfl, fun j hj => ?_, fun j hj => ?_⟩
  · rw [if_pos ⟨by omega, by omega⟩, show o3 + j - o3 = j by omega]
  · rw [if_neg (by omega)]
def lstA (a : Abs) (k : Nat) : List Nat := (List.range k).filter (fun r => decide (aF a 1 r = 0))
theorem lst_snoc (a : Abs) (k : Nat) : lstA a (k + 1) = if aF a 1 k = 0 then lstA a k ++ [k] else lstA a k := by
  unfold lstA
  rw [List.range_succ, List.filter_append]
  by_cases q : aF a 1 k = 0
  · rw [if_pos q, List.filter_cons_of_pos (p := fun r => decide (aF a 1 r = 0)) (decide_eq_true q)]
    rfl
  · rw [if_neg q, List.filter_cons_of_neg (p := fun r => decide (aF a 1 r = 0)) (by rw [decide_eq_false q]; decide)]
    exact List.append_nil _
theorem lst_len (a : Abs) : ∀ k, (lstA a k).length = sm (fun r => b1 (decide (aF a 1 r = 0))) k
  | 0 => rfl
  | k + 1 => by
    rw [lst_snoc]
    show _ = sm (fun r => b1 (decide (aF a 1 r = 0))) k + b1 (decide (aF a 1 k = 0))
    rw [← lst_len a k]
    by_cases q : aF a 1 k = 0
    · rw [if_pos q, decide_eq_true q, List.length_append]
      rfl
    · rw [if_neg q, decide_eq_false q]
      rfl
theorem sm_up (f : Nat → Nat) {n : Nat} : ∀ m, n ≤ m → sm f n ≤ sm f m
  | 0, h => by
    have : n = 0 := by omega
    subst this
    exact Nat.le_refl _
  | m + 1, h => by
    by_cases q : n = m + 1
    · subst q; exact Nat.le_refl _
    · exact Nat.le_trans (sm_up f m (by omega)) (Nat.le_add_right _ _)
theorem lst_mem (a : Abs) (k r : Nat) : r ∈ lstA a k ↔ r < k ∧ aF a 1 r = 0 := by
  unfold lstA
  rw [List.mem_filter, List.mem_range]
  exact ⟨fun h => ⟨h.1, of_decide_eq_true h.2⟩, fun h => ⟨h.1, decide_eq_true h.2⟩⟩
theorem lst_nodup (a : Abs) (k : Nat) : (lstA a k).Nodup := List.nodup_range.sublist List.filter_sublist
section CODES
variable {a : Abs} {s : Nat → Int32}
theorem RepN_agree {v : Nat → Int32} (h : RepN a s) (hi : aInv a) (e : ∀ j, j < 703 → v j = s j) : RepN a v := by
  obtain ⟨⟨q1, q2, q3, q4⟩, q5, q6, q8⟩ := h
  have hn := hi.1.2
  refine ⟨⟨?_, ?_, ?_, ?_⟩, fun i i1 i2 => ?_, fun r hr => ?_, fun r k y hr hy => ?_⟩
  · rw [e _ (by omega)]; exact q1
  · rw [e _ (by omega)]; exact q2
  · rw [e _ (by omega)]; exact q3
  · rw [e _ (by omega)]; exact q4
  · rw [e _ (by omega)]; exact q5 i i1 i2
  · rw [e _ (by omega), e _ (by omega), e _ (by omega), e _ (by omega), e _ (by omega)]; exact q6 r hr
  · have h1 := inv_len hi hr
    have h2 : k < (aM a r).length := by
      rcases Nat.lt_or_ge k (aM a r).length with w | w
      · exact w
      · rw [List.getElem?_eq_none w] at hy
        cases hy
    rw [e _ (by omega), e _ (by omega), e _ (by omega)]; exact q8 r k y hr hy
theorem RepW_agree {v : Nat → Int32} (h : RepW a s) (hi : aInv a) (e : ∀ j, j < 703 → v j = s j) : RepW a v := by
  have hn := hi.1.2
  intro r c hr hc
  rw [e _ (by omega), e _ (by omega), e _ (by omega)]
  exact h r c hr hc
theorem M_lostMany (h : RepN a s) (hi : aInv a) : MX6_lostMany s = some (nI (aNl a)) := by
  have hn := hi.1
  unfold MX6_lostMany
  suffices hs : itr (SX6_lostMany_4 s) FU (0, 0) = some (nI (aNl a)) by
    rw [hs, Option.bind_some]
  refine itr_for (step := SX6_lostMany_4 s) (aG a 0) (fun k => (nI (sm (fun r => b1 (decide (aF a 1 r = 0))) k), nI k)) (nI (aNl a)) (fun k hk => ?_) ?_ FU (FU_lt (by omega))
  · unfold SX6_lostMany_4
    dsimp only
    rw [M_n h, Option.bind_some, if_neg (nI_ge hk (by omega)), M_lives h hi hk, Option.bind_some, nI_1]
    have h01 := (hi.2.2.2.2.1 k hk).2.2.2.2.1
    by_cases q : aF a 1 k = 0
    · rw [if_neg (show ¬ aF a 1 k = 1 by omega), if_pos rfl, nI_1]
      show _ = some (Sum.inl (nI (sm _ k + b1 (decide (aF a 1 k = 0))), _))
      rw [decide_eq_true q]
      rfl
    · rw [if_pos (show aF a 1 k = 1 by omega), if_neg one_n0, Int32.add_zero, nI_1]
      show _ = some (Sum.inl (nI (sm _ k + b1 (decide (aF a 1 k = 0))), _))
      rw [decide_eq_false q]
      rfl
  · unfold SX6_lostMany_4
    dsimp only
    rw [M_n h, Option.bind_some, if_pos (nI_le (Nat.le_refl _) (by omega))]
    rfl
theorem M_findsLost (h : RepN a s) (hi : aInv a) (h4 : aNl a ≤ 4) (lo : Int32) (lost : Nat → Int32) : ∃ z, MX6_findsLost lo s lost = some z ∧ z.1 = nI (aNl a) ∧ ∀ i, i < aNl a → z.2 i = nI ((lstA a (aG a 0)).getD i (aG a 0)) := by
  have hn := hi.1
  unfold MX6_findsLost
  obtain ⟨r, e1, e2, e3⟩ := itr_gen (step := SX6_findsLost_7 s) (aG a 0) (fun k t => t.1 = nI k ∧ t.2.1 = nI (lstA a k).length ∧ ∀ i, i < (lstA a k).length → t.2.2 i = nI ((lstA a k).getD i (aG a 0))) (fun r => r.1 = nI (aNl a) ∧ ∀ i, i < aNl a → r.2 i = nI ((lstA a (aG a 0)).getD i (aG a 0))) (fun k t hk hI => by
    obtain ⟨q1, q2, q3⟩ := hI
    unfold SX6_findsLost_7
    rcases Nat.lt_or_ge k (aG a 0) with w | w
    · left
      refine ⟨w, ?_⟩
      have h01 := (hi.2.2.2.2.1 k w).2.2.2.2.1
      rw [M_n h, Option.bind_some, q1, if_neg (nI_ge w (by omega)), M_lives h hi w, Option.bind_some]
      have hs := lst_snoc a k
      by_cases q : aF a 1 k = 0
      · rw [if_pos q] at hs
        have hle : (lstA a (k + 1)).length ≤ 4 := by
          rw [lst_len]
          exact Nat.le_trans (sm_up _ (aG a 0) (by omega)) h4
        have hl : (lstA a (k + 1)).length = (lstA a k).length + 1 := by rw [hs, List.length_append]; rfl
        rw [if_neg (show ¬ aF a 1 k = 1 by omega), if_pos rfl, q2, stA_nI _ (by omega) (by decide), Option.bind_some, nI_1, nI_1, ← hl]
        refine ⟨_, rfl, rfl, rfl, fun i hi' => ?_⟩
        show upd t.2.2 (lstA a k).length (nI k) i = _
        rw [hs, List.getD_eq_getElem?_getD]
        by_cases y : i = (lstA a k).length
        · subst y
          rw [pk_us, List.getElem?_append_right (Nat.le_refl _), Nat.sub_self]
          rfl
        · rw [pk_un y, q3 i (by omega), List.getElem?_append_left (by omega), ← List.getD_eq_getElem?_getD]
      · rw [if_neg q] at hs
        rw [if_pos (show aF a 1 k = 1 by omega), if_neg one_n0, nI_1, hs]
        exact ⟨_, rfl, rfl, q2, q3⟩
    · right
      have : k = aG a 0 := by omega
      subst this
      rw [M_n h, Option.bind_some, q1, if_pos (nI_le (Nat.le_refl _) (by omega))]
      have hl : (lstA a (aG a 0)).length = aNl a := lst_len a _
      rw [hl] at q2 q3
      exact ⟨_, rfl, q2, q3⟩) FU (0, 0, lost) (FU_lt (by omega)) ⟨rfl, rfl, fun i hi' => absurd hi' (Nat.not_lt_zero i)⟩
  rw [e1, Option.bind_some]
  exact ⟨_, rfl, e2, e3⟩
theorem stg_inv (hi : aInv a) (p : List Nat) (hp : ∀ r ∈ p, r < aG a 0) : aInv (stg a p).1 ∧ aG (stg a p).1 = aG a ∧ (stg a p).2 ≤ 8 * p.length := by
  have : ∀ (p : List Nat) (x : Abs × Nat), aInv x.1 → (∀ r ∈ p, r < aG x.1 0) → aInv (p.foldl (fun x r => ((aMend x.1 r).2, x.2 + aBack x.1 r)) x).1 ∧ aG (p.foldl (fun x r => ((aMend x.1 r).2, x.2 + aBack x.1 r)) x).1 = aG x.1 ∧ (p.foldl (fun x r => ((aMend x.1 r).2, x.2 + aBack x.1 r)) x).2 ≤ x.2 + 8 * p.length := by
    intro p
    induction p with
    | nil => exact fun x h _ => ⟨h, rfl, Nat.le_refl _⟩
    | cons r p ih =>
      intro x h hr
      have h1 := hr r (List.mem_cons_self ..)
      have := ih ((aMend x.1 r).2, x.2 + aBack x.1 r) (mend_inv h h1) (fun q hq => by
        show q < aG (aMend x.1 r).2 0
        rw [mend_G]
        exact hr q (List.mem_cons_of_mem _ hq))
      refine ⟨this.1, this.2.1.trans (mend_G _ _), Nat.le_trans this.2.2 ?_⟩
      have := aBack_le x.1 r
      rw [List.length_cons]
      show x.2 + aBack x.1 r + 8 * p.length ≤ _
      omega
  have h := this p (a, 0) hi hp
  refine ⟨h.1, h.2.1, Nat.le_trans h.2.2 ?_⟩
  show 0 + 8 * p.length ≤ _
  omega
theorem M_cameBy (h : RepN a s) (hw : RepW a s) (hi : aInv a) (h4 : aNl a ≤ 4) (aside lost : Nat → Int32) (hl : ∀ i, i < aNl a → lost i = nI ((lstA a (aG a 0)).getD i (aG a 0))) {c : Nat} (hc : c < 4 ^ aNl a) (ho : (digs (aNl a) c).Nodup ∧ ∀ d ∈ digs (aNl a) c, d < aNl a) : ∃ z, MX6_cameBy (nI (aNl a)) s aside lost (nI c) = some z ∧ z.1 = nI (stg a ((digs (aNl a) c).map (fun d => (lstA a (aG a 0)).getD d (aG a 0)))).2 ∧ ∀ j, j < 703 → z.2.1 j = s j := by
  have hn := hi.1
  have hL : (lstA a (aG a 0)).length = aNl a := lst_len a _
  have hJ : aG a 0 ∉ lstA a (aG a 0) := fun z => absurd ((lst_mem a _ _).mp z).1 (Nat.lt_irrefl _)
  have hord := (dig_ok (lst_nodup a (aG a 0)) hJ (digs (aNl a) c)).mpr (by rw [hL]; exact ho)
  have hlen : ((digs (aNl a) c).map (fun d => (lstA a (aG a 0)).getD d (aG a 0))).length = aNl a := by rw [List.length_map, digs_len]
  have hc256 : c < 256 := Nat.lt_of_lt_of_le hc (by
    have : 4 ^ aNl a ≤ 4 ^ 4 := Nat.pow_le_pow_right (by decide) h4
    exact this)
  unfold MX6_cameBy
  obtain ⟨v1, p1, p2, p3⟩ := M_copies (n0 := 703) (n2 := 703) (o1 := 0) (o3 := 0) s aside (by decide) (by decide) (by decide) (by decide)
  rw [show MX6_copies 703 703 s aside 0 0 = some v1 from p1, Option.bind_some]
  generalize hR : (digs (aNl a) c).map (fun d => (lstA a (aG a 0)).getD d (aG a 0)) = R at hord hlen ⊢
  have hRin : ∀ r ∈ R, r < aG a 0 ∧ aF a 1 r = 0 := fun r hr => (lst_mem a _ _).mp (hord.2 r hr)
  obtain ⟨r, e1, e2, e3⟩ := itr_gen (step := SX6_cameBy_17 (nI (aNl a)) lost (nI c)) (aNl a) (fun k t => t.1 = nI (stg a (R.take k)).2 ∧ t.2.1 = nI k ∧ RepN (stg a (R.take k)).1 t.2.2 ∧ RepW (stg a (R.take k)).1 t.2.2) (fun r => r.1 = nI (stg a R).2 ∧ True) (fun k t hk hI => by
    obtain ⟨q1, q2, q3, q4⟩ := hI
    unfold SX6_cameBy_17
    rcases Nat.lt_or_ge k (aNl a) with w | w
    · left
      refine ⟨w, ?_⟩
      have hd := digs_get c (aNl a) k w
      have hdm : (c / 4 ^ (aNl a - 1 - k) % 4) ∈ digs (aNl a) c := List.mem_of_getElem? hd
      have hlt := ho.2 _ hdm
      have hRk : R[k]? = some ((lstA a (aG a 0)).getD (c / 4 ^ (aNl a - 1 - k) % 4) (aG a 0)) := by
        rw [← hR, List.getElem?_map, hd]
        rfl
      rw [q2, if_neg (nI_ge w (by omega)), d_digit (aNl a) (by omega) k w c hc256, ldA_nI (by omega) (by decide), Option.bind_some, hl _ hlt]
      generalize (lstA a (aG a 0)).getD (c / 4 ^ (aNl a - 1 - k) % 4) (aG a 0) = r at hRk
      have hrR : r ∈ R := List.mem_of_getElem? hRk
      have htk : R.take (k + 1) = R.take k ++ [r] := by
        rw [List.take_add_one, hRk]
        rfl
      have hnr : r ∉ R.take k := by
        have : (R.take k ++ [r]).Nodup := by
          rw [← htk]
          exact hord.1.sublist (List.take_sublist _ _)
        intro z
        exact (List.nodup_append.mp this).2.2 r z r (List.mem_cons_self ..) rfl
      have hst := stg_inv hi (R.take k) (fun q hq => (hRin q (List.mem_of_mem_take hq)).1)
      obtain ⟨g, m1, m2, m3⟩ := M_mend q3 q4 hst.1 (r := r) (by rw [hst.2.1]; exact (hRin r hrR).1) ((stg_lost a r (R.take k) (hRin r hrR).2).mpr hnr)
      rw [m1, Option.bind_some]
      dsimp only
      rw [q1, show (aMend (stg a (R.take k)).1 r).1 = aBack (stg a (R.take k)).1 r from rfl, nI_add, nI_1]
      refine ⟨_, rfl, ?_, rfl, ?_, ?_⟩
      · rw [htk, stg_snoc]
      · rw [htk, stg_snoc]
        exact m2
      · rw [htk, stg_snoc]
        exact m3
    · right
      have : k = aNl a := by omega
      subst this
      rw [q2, if_pos (nI_le (Nat.le_refl _) (by omega))]
      refine ⟨_, rfl, ?_, trivial⟩
      rw [q1, List.take_of_length_le (by omega)]) FU (0, 0, s) (FU_lt (by omega)) ⟨rfl, rfl, h, hw⟩
  rw [e1, Option.bind_some]
  obtain ⟨v2, p4, p5, p6⟩ := M_copies (n0 := 703) (n2 := 703) (o1 := 0) (o3 := 0) v1 r.2 (by decide) (by decide) (by decide) (by decide)
  rw [show MX6_copies 703 703 v1 r.2 0 0 = some v2 from p4, Option.bind_some]
  refine ⟨_, rfl, e2, fun j hj => ?_⟩
  have h1 := p5 j hj
  have h2 := p2 j hj
  rw [Nat.zero_add] at h1 h2
  exact h1.trans h2
end CODES
