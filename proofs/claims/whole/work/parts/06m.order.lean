/-! order and comes: both sides alike -/
def hOrd (a : Abs) (L p : List Nat) (x : Acc) : Acc := if p.Nodup ∧ ∀ r ∈ p, r ∈ L then keepA (stg a p).2 p x else x
section ORD
variable {a : Abs} {f s : Nat → Int32}
def RelM (a : Abs) (m : Nat) (x : Acc) (bo bm : Int32) : Prop := match x with
  | none => bm = -1
  | some y => ∃ c, c < 4 ^ m ∧ bo = nI c ∧ y.2 = (digs m c).map (fun d => (lstA a (aG a 0)).getD d (aG a 0)) ∧ bm = nI y.1 ∧ y.1 ≤ 32 ∧ (digs m c).Nodup ∧ ∀ d ∈ digs m c, d < m
theorem le_sumM {m g : Nat} {x : Acc} {bo bm : Int32} (h : RelM a m x bo bm) (hg : g < 2 ^ 31) : nI g ≤ bm ↔ (g : Int) ≤ aSum x := by
  cases x with
  | none =>
    have h : bm = -1 := h
    subst h
    constructor
    · intro z
      rw [Int32.le_iff_toInt_le, nI_toInt hg] at z
      exact z
    · intro z
      exact absurd z (show ¬ (g : Int) ≤ -1 by omega)
  | some y =>
    obtain ⟨c, _, _, _, h1, h2, _⟩ := h
    rw [h1, Int32.le_iff_toInt_le, nI_toInt hg, nI_toInt (by omega)]
    exact Iff.rfl
theorem m1_le {m : Nat} {x : Acc} {bo bm : Int32} (h : RelM a m x bo bm) : (-1 : Int32) ≤ bm := by
  cases x with
  | none =>
    have h : bm = -1 := h
    subst h
    decide
  | some y =>
    obtain ⟨c, _, _, _, h1, h2, _⟩ := h
    rw [h1, Int32.le_iff_toInt_le, nI_toInt (by omega)]
    show (-1 : Int) ≤ _
    omega
theorem M_findsOrder (h : RepN a s) (hw : RepW a s) (hi : aInv a) (h4 : aNl a ≤ 4) (lo bo bm : Int32) (as lost : Nat → Int32) : ∃ z, MX6_findsOrder lo bo bm s as lost = some z ∧ z.1 = nI (aNl a) ∧ RelM a (aNl a) (dfs (lstA a (aG a 0)) (aNl a) a 0 [] none) z.2.1 z.2.2.1 ∧ (∀ j, j < 703 → z.2.2.2.1 j = s j) ∧ ∀ i, i < aNl a → z.2.2.2.2.2 i = nI ((lstA a (aG a 0)).getD i (aG a 0)) := by
  have hn := hi.1
  have hL : (lstA a (aG a 0)).length = aNl a := lst_len a _
  have hJ : aG a 0 ∉ lstA a (aG a 0) := fun z => absurd ((lst_mem a _ _).mp z).1 (Nat.lt_irrefl _)
  have h256 : 4 ^ aNl a ≤ 256 := Nat.pow_le_pow_right (n := 4) (by decide) h4
  unfold MX6_findsOrder
  obtain ⟨v, p1, p2, p3⟩ := M_findsLost h hi h4 lo lost
  rw [p1, Option.bind_some]
  have hB : foldN (fun j y => hOrd a (lstA a (aG a 0)) ((digs (aNl a) j).map (fun d => (lstA a (aG a 0)).getD d (aG a 0))) y) none (4 ^ aNl a) = dfs (lstA a (aG a 0)) (aNl a) a 0 [] none := by
    rw [enum_codes (aNl a) (fun l y => hOrd a (lstA a (aG a 0)) (l.map (fun d => (lstA a (aG a 0)).getD d (aG a 0))) y) none]
    have := enum_dfs a (lstA a (aG a 0)) (aG a 0) (hOrd a (lstA a (aG a 0))) hJ (fun r hr => ((lst_mem a _ _).mp hr).2) (by omega) (fun p x hp _ => if_pos hp) (fun p x hp => if_neg hp) (aNl a) [] none ⟨List.nodup_nil, fun r hr => absurd hr (by simp)⟩ (by rw [hL]; exact Nat.zero_add _)
    exact this
  obtain ⟨r, e1, e2, e3⟩ := itr_gen (step := SX6_findsOrder_16 v) (4 ^ aNl a) (fun j t => t.1 = nI j ∧ RelM a (aNl a) (foldN (fun j y => hOrd a (lstA a (aG a 0)) ((digs (aNl a) j).map (fun d => (lstA a (aG a 0)).getD d (aG a 0))) y) none j) t.2.1 t.2.2.1 ∧ ∀ i, i < 703 → t.2.2.2.1 i = s i) (fun r => RelM a (aNl a) (dfs (lstA a (aG a 0)) (aNl a) a 0 [] none) r.1 r.2.1 ∧ ∀ i, i < 703 → r.2.2.1 i = s i) (fun j t hj hI => by
    obtain ⟨q1, q2, q3⟩ := hI
    unfold SX6_findsOrder_16
    rw [p2, d_all _ (by omega), q1]
    rcases Nat.lt_or_ge j (4 ^ aNl a) with w | w
    · left
      refine ⟨w, ?_⟩
      rw [if_neg (nI_ge w (by omega)), d_order _ (by omega) _ w, Option.bind_some]
      have hdo := dig_ok (lst_nodup a (aG a 0)) hJ (digs (aNl a) j)
      rw [hL] at hdo
      by_cases o : (digs (aNl a) j).Nodup ∧ ∀ d ∈ digs (aNl a) j, d < aNl a
      · rw [if_pos o, if_neg one_n0]
        have k1 := RepN_agree h hi q3
        have k2 := RepW_agree hw hi q3
        obtain ⟨z, z1, z2, z3⟩ := M_cameBy k1 k2 hi h4 t.2.2.2.2 v.2 p3 w o
        have hR : ∀ r ∈ (digs (aNl a) j).map (fun d => (lstA a (aG a 0)).getD d (aG a 0)), r < aG a 0 := fun r hr => ((lst_mem a _ _).mp ((hdo.mpr o).2 r hr)).1
        have hg := (stg_inv hi _ hR).2.2
        rw [List.length_map, digs_len] at hg
        rw [z1, Option.bind_some, z2]
        have hnew : foldN (fun j y => hOrd a (lstA a (aG a 0)) ((digs (aNl a) j).map (fun d => (lstA a (aG a 0)).getD d (aG a 0))) y) none (j + 1) = keepA (stg a ((digs (aNl a) j).map (fun d => (lstA a (aG a 0)).getD d (aG a 0)))).2 ((digs (aNl a) j).map (fun d => (lstA a (aG a 0)).getD d (aG a 0))) (foldN (fun j y => hOrd a (lstA a (aG a 0)) ((digs (aNl a) j).map (fun d => (lstA a (aG a 0)).getD d (aG a 0))) y) none j) := if_pos (hdo.mpr o)
        rw [hnew]
        unfold keepA
        by_cases c : (((stg a ((digs (aNl a) j).map (fun d => (lstA a (aG a 0)).getD d (aG a 0)))).2 : Nat) : Int) ≤ aSum (foldN (fun j y => hOrd a (lstA a (aG a 0)) ((digs (aNl a) j).map (fun d => (lstA a (aG a 0)).getD d (aG a 0))) y) none j)
        · have c' := (le_sumM q2 (by omega)).mpr c
          rw [if_pos c', if_pos c', if_pos c, nI_1]
          exact ⟨_, rfl, rfl, q2, fun i hi' => (z3 i hi').trans (q3 i hi')⟩
        · have c' : ¬ nI (stg a ((digs (aNl a) j).map (fun d => (lstA a (aG a 0)).getD d (aG a 0)))).2 ≤ t.2.2.1 := fun z => c ((le_sumM q2 (by omega)).mp z)
          rw [if_neg c', if_neg c', if_neg c, nI_1]
          exact ⟨_, rfl, rfl, ⟨j, w, rfl, rfl, rfl, by omega, o.1, o.2⟩, fun i hi' => (z3 i hi').trans (q3 i hi')⟩
      · rw [if_neg o, if_pos rfl, if_pos (m1_le q2), if_pos (m1_le q2), nI_1]
        have hnew : foldN (fun j y => hOrd a (lstA a (aG a 0)) ((digs (aNl a) j).map (fun d => (lstA a (aG a 0)).getD d (aG a 0))) y) none (j + 1) = foldN (fun j y => hOrd a (lstA a (aG a 0)) ((digs (aNl a) j).map (fun d => (lstA a (aG a 0)).getD d (aG a 0))) y) none j := if_neg (fun z => o (hdo.mp z))
        rw [hnew]
        exact ⟨_, rfl, rfl, q2, q3⟩
    · right
      have : j = 4 ^ aNl a := by omega
      subst this
      rw [if_pos (nI_le (Nat.le_refl _) (by omega))]
      rw [hB] at q2
      exact ⟨_, rfl, q2, q3⟩) FU (0, 0, -1, s, as) (FU_lt (by omega)) ⟨rfl, rfl, fun _ _ => rfl⟩
  rw [e1, Option.bind_some]
  exact ⟨_, rfl, p2, e2, e3, p3⟩
theorem both_best (hi : aInv a) (h4 : aNl a ≤ 4) {su bo bm : Int32} {be lost : Nat → Int32} (h1 : RelC (aNl a) (pds (aG a 0) (aNl a) a 0 [] none) su be) (h2 : RelM a (aNl a) (dfs (lstA a (aG a 0)) (aNl a) a 0 [] none) bo bm) (h3 : ∀ i, i < aNl a → lost i = nI ((lstA a (aG a 0)).getD i (aG a 0))) : su = bm ∧ (∃ g, g ≤ 32 ∧ su = nI g) ∧ ∀ i, i < aNl a → ldA 4 lost ((bo >>> ((2 * ((nI (aNl a) - 1) - nI i)) &&& 31)) &&& 3) = some (be i) := by
  have hL : (lstA a (aG a 0)).length = aNl a := lst_len a _
  rw [pds_dfs (lstA a (aG a 0)) (aG a 0) (fun r => decide (aF a 1 r = 0)) rfl (aNl a) a 0 [] none hi rfl rfl (fun r _ h => decide_eq_true h)] at h1
  obtain ⟨y, hy⟩ := dfs_ex (lstA a (aG a 0)) (aNl a) a 0 [] none rfl (fun r hr hl => (lst_mem a _ _).mpr ⟨hr, hl⟩)
  rw [hy] at h1 h2
  obtain ⟨c1, c2, c3, c4⟩ := h1
  obtain ⟨c, d1, d2, d3, d4, d5, d6, d7⟩ := h2
  have h256 : 4 ^ aNl a ≤ 256 := Nat.pow_le_pow_right (n := 4) (by decide) h4
  refine ⟨by rw [c1, d4], ⟨y.1, c2, c1⟩, fun i hi' => ?_⟩
  have hd := digs_get c (aNl a) i hi'
  have hlt := d7 _ (List.mem_of_getElem? hd)
  rw [d2, d_digit _ (by omega) i hi' c (by omega), ldA_nI (by omega) (by decide), h3 _ hlt, c4 i hi', d3, List.getD_eq_getElem?_getD (l := (digs (aNl a) c).map (fun d => (lstA a (aG a 0)).getD d (aG a 0))), List.getElem?_map, hd]
  rfl
theorem sim_comes (h : Two a f s) (su : Int32) (st0 st1 st2 st3 tr be : Nat → Int32) (lo bo bm : Int32) (as lost : Nat → Int32) : ∃ z w, MX5_comes f su st0 st1 st2 st3 tr be = some z ∧ MX6_comes lo bo bm s as lost = some w ∧ z.1 = w.1 ∧ ∀ j, j < 703 → w.2.2.2.2.1 j = s j := by
  obtain ⟨h1, h2, h3, h4, h5⟩ := h
  have hn := h4.1
  have hnl := nl_le a
  unfold MX5_comes MX6_comes
  rw [M_lostMany h2 h4, Option.bind_some]
  rcases C_find h1 h4 su st0 st1 st2 st3 tr be with ⟨q, e⟩ | ⟨q, z, e1, e2, e3⟩
  · rw [e, Option.bind_some, if_neg nn_3, if_neg (show ¬ nI (aNl a) ≤ 4 from not_le_of (b := 4) (nI_lt q (by omega)))]
    exact ⟨_, _, rfl, rfl, rfl, fun _ _ => rfl⟩
  · obtain ⟨w, w1, w2, w3, w4, w5⟩ := M_findsOrder h2 h3 h4 q lo bo bm as lost
    have hb := both_best h4 q e3 w3 w5
    rw [e1, Option.bind_some, e2, if_pos (nI_pos' (by omega)), if_pos (show nI (aNl a) ≤ 4 from nI_le (b := 4) q (by omega)), w1, Option.bind_some]
    unfold MX1_bestSum
    rw [Option.bind_some]
    exact ⟨_, _, rfl, rfl, hb.1, w4⟩
theorem sim_order (h : Two a f s) (su : Int32) (st0 st1 st2 st3 tr be : Nat → Int32) (lo bo bm : Int32) (as lost : Nat → Int32) (x0 : Int32) : ∃ z w, MX5_order f su st0 st1 st2 st3 tr be x0 = some z ∧ MX6_order lo bo bm s as lost x0 = some w ∧ z.1 = w.1 ∧ ∀ j, j < 703 → w.2.2.2.2.1 j = s j := by
  obtain ⟨h1, h2, h3, h4, h5⟩ := h
  have hn := h4.1
  have hnl := nl_le a
  unfold MX5_order MX6_order
  by_cases x : 0 ≤ x0
  · rw [if_pos x, if_pos x, M_lostMany h2 h4, Option.bind_some]
    rcases C_find h1 h4 su st0 st1 st2 st3 tr be with ⟨q, e⟩ | ⟨q, z, e1, e2, e3⟩
    · rw [e, Option.bind_some, if_neg nn_3, if_neg (show ¬ nI (aNl a) ≤ 4 from not_le_of (b := 4) (nI_lt q (by omega)))]
      exact ⟨_, _, rfl, rfl, rfl, fun _ _ => rfl⟩
    · obtain ⟨w, w1, w2, w3, w4, w5⟩ := M_findsOrder h2 h3 h4 q lo bo bm as lost
      have hb := both_best h4 q e3 w3 w5
      rw [e1, Option.bind_some, e2, if_pos (nI_pos' (by omega)), if_pos (show nI (aNl a) ≤ 4 from nI_le (b := 4) q (by omega)), w1, Option.bind_some, w2]
      by_cases c : nI (aNl a) ≤ x0
      · rw [if_pos c, if_pos c]
        exact ⟨_, _, rfl, rfl, rfl, w4⟩
      · obtain ⟨i, i1, rfl⟩ := nI_of (show ¬ x0 < 0 from fun z => by
          rw [Int32.le_iff_toInt_le] at x
          rw [Int32.lt_iff_toInt_lt] at z
          omega)
        have ii : i < aNl a := by
          rcases Nat.lt_or_ge i (aNl a) with v | v
          · exact v
          · exact absurd (nI_le v i1) c
        rw [if_neg c, if_neg c, hb.2.2 i ii, Option.bind_some]
        unfold MX1_bestRow
        rw [if_neg (nI_pos i1), if_neg (show ¬ (4 : Int32) ≤ nI i from nI_ge (b := 4) (by omega) (by omega)), ldA_nI (by omega) (by decide), Option.bind_some, Option.bind_some]
        exact ⟨_, _, rfl, rfl, rfl, w4⟩
  · rw [if_neg x, if_neg x]
    exact ⟨_, _, rfl, rfl, rfl, fun _ _ => rfl⟩
end ORD
