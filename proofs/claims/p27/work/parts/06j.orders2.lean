/-! all orders: by codes and by depth; the search that leaves off early finds the same -/
theorem keep_some {g : Nat} {p : List Nat} {x : Acc} : ∃ y, keepA g p x = some y := by
  unfold keepA
  split
  · next h =>
    cases x with
    | none => exact absurd h (show ¬ (g : Int) ≤ -1 by omega)
    | some y => exact ⟨y, rfl⟩
  · exact ⟨_, rfl⟩
theorem foldl_some {α : Type} {f : Acc → α → Acc} : ∀ (L : List α) (x : Acc), (∀ y r, (∃ z, y = some z) → ∃ z, f y r = some z) → (∃ z, x = some z) → ∃ z, L.foldl f x = some z
  | [], _, _, h => h
  | r :: L, x, h1, h2 => foldl_some L (f x r) h1 (h1 x r h2)
theorem foldl_some1 {α : Type} {f : Acc → α → Acc} : ∀ (L : List α) (x : Acc) (r : α), r ∈ L → (∀ y r, (∃ z, y = some z) → ∃ z, f y r = some z) → (∀ y, ∃ z, f y r = some z) → ∃ z, L.foldl f x = some z
  | [], _, _, h, _, _ => absurd h (by simp)
  | q :: L, x, r, h, h1, h2 => by
    rcases List.mem_cons.mp h with rfl | h
    · exact foldl_some L (f x r) h1 (h2 x)
    · exact foldl_some1 L (f x q) r h h1 h2
theorem dfs_some (L : List Nat) : ∀ k a g p x, (∃ z, x = some z) → ∃ z, dfs L k a g p x = some z
  | 0, _, _, _, _, _ => keep_some
  | k + 1, a, g, p, x, h => foldl_some L x (fun y r hy => by
    split
    · exact dfs_some L k _ _ _ y hy
    · exact hy) h
theorem sm_pos {f : Nat → Nat} : ∀ n, 0 < sm f n → ∃ r, r < n ∧ 0 < f r
  | 0, h => absurd h (Nat.lt_irrefl 0)
  | n + 1, h => by
    rcases Nat.eq_zero_or_pos (f n) with z | z
    · have : 0 < sm f n + f n := h
      obtain ⟨r, r1, r2⟩ := sm_pos (f := f) n (by omega)
      exact ⟨r, by omega, r2⟩
    · exact ⟨n, by omega, z⟩
theorem nl_pos {a : Abs} {k : Nat} (h : aNl a = k + 1) : ∃ r, r < aG a 0 ∧ aF a 1 r = 0 := by
  obtain ⟨r, r1, r2⟩ := sm_pos (f := fun r => b1 (decide (aF a 1 r = 0))) (aG a 0) (by
    have : sm (fun r => b1 (decide (aF a 1 r = 0))) (aG a 0) = k + 1 := h
    omega)
  refine ⟨r, r1, ?_⟩
  by_cases q : aF a 1 r = 0
  · exact q
  · rw [decide_eq_false q] at r2
    exact absurd r2 (by decide)
theorem nl_zero {a : Abs} (h : aNl a = 0) : ∀ r, r < aG a 0 → ¬ aF a 1 r = 0 := by
  intro r hr q
  have := sm_one (f := fun r => b1 (decide (aF a 1 r = 0))) (g := fun _ => 0) (r := r) (x := 1) (aG a 0) hr (fun _ _ _ => Nat.zero_le _) (by
    rw [decide_eq_true q]
    exact Nat.le_refl _)
  have h' : sm (fun r => b1 (decide (aF a 1 r = 0))) (aG a 0) = 0 := h
  omega
theorem dfs_ex (L : List Nat) : ∀ k a g p x, aNl a = k → (∀ r, r < aG a 0 → aF a 1 r = 0 → r ∈ L) → ∃ z, dfs L k a g p x = some z
  | 0, _, _, _, _, _, _ => keep_some
  | k + 1, a, g, p, x, h, hL => by
    obtain ⟨r, r1, r2⟩ := nl_pos h
    refine foldl_some1 L x r (hL r r1 r2) (fun y r hy => ?_) (fun y => ?_)
    · split
      · exact dfs_some L k _ _ _ y hy
      · exact hy
    · rw [if_pos r2]
      have := nl_mend r1 r2
      refine dfs_ex L k _ _ _ y (by omega) (fun q hq hl => ?_)
      rw [mend_G] at hq
      rw [mend_F1] at hl
      split at hl
      · cases hl
      · exact hL q hq hl
theorem dfs_cut (L : List Nat) : ∀ k a g p y, aInv a → aNl a = k → (∀ r ∈ L, r < aG a 0) → ((g + aStill a : Nat) : Int) ≤ aSum y → dfs L k a g p y = y
  | 0, a, g, p, y, _, _, _, h => by
    show keepA g p y = y
    unfold keepA
    rw [if_pos (by omega)]
  | k + 1, a, g, p, y, hi, hk, hL, h => by
    refine foldl_id L (fun r hr => ?_)
    split
    · next q =>
      have r1 := hL r hr
      have := nl_mend r1 q
      have := still_mend hi r1 q
      exact dfs_cut L k _ _ _ y (mend_inv hi r1) (by omega) (fun r hr => by rw [mend_G]; exact hL r hr) (by omega)
    · rfl
theorem pds_dfs (L : List Nat) (n : Nat) (P : Nat → Bool) (hLP : L = (List.range n).filter P) : ∀ k a g p x, aInv a → aG a 0 = n → aNl a = k → (∀ r, r < n → aF a 1 r = 0 → P r = true) → pds n k a g p x = dfs L k a g p x
  | 0, _, _, _, _, _, _, _, _ => rfl
  | k + 1, a, g, p, x, hi, hG, hk, hP => by
    have hL : ∀ r ∈ L, r < n := by
      intro r hr
      rw [hLP] at hr
      exact List.mem_range.mp (List.mem_filter.mp hr).1
    show foldN _ x n = L.foldl _ x
    rw [foldN_filter _ P x n (fun r y hr hq => by
      rw [if_neg (fun z => by
        rw [hP r hr z.1] at hq
        cases hq)]), ← hLP]
    refine foldl_congr' L x (fun r hr y => ?_)
    by_cases q : aF a 1 r = 0
    · have r1 := hL r hr
      have m1 := nl_mend (a := a) (by rw [hG]; exact r1) q
      have m2 := still_mend hi (by rw [hG]; exact r1) q
      have mi := mend_inv hi (r := r) (by rw [hG]; exact r1)
      rw [if_pos q]
      by_cases w : ((g + aStill a : Nat) : Int) ≤ aSum y
      · rw [if_neg (fun z => z.2 w)]
        exact (dfs_cut L k _ _ _ y mi (by omega) (fun q hq => by rw [mend_G, hG]; exact hL q hq) (by omega)).symm
      · rw [if_pos ⟨q, w⟩]
        exact pds_dfs L n P hLP k _ _ _ y mi (by rw [mend_G]; exact hG) (by omega) (fun q hq hl => by
          rw [mend_F1] at hl
          split at hl
          · cases hl
          · exact hP q hq hl)
    · rw [if_neg q, if_neg (fun z => q z.1)]
/-- the state and the sum after rows mended one after the other -/
def stg (a : Abs) (p : List Nat) : Abs × Nat := p.foldl (fun x r => ((aMend x.1 r).2, x.2 + aBack x.1 r)) (a, 0)
theorem stg_snoc (a : Abs) (p : List Nat) (r : Nat) : stg a (p ++ [r]) = ((aMend (stg a p).1 r).2, (stg a p).2 + aBack (stg a p).1 r) := by
  unfold stg
  rw [List.foldl_append]
  rfl
theorem stg_lost' (q : Nat) : ∀ (p : List Nat) (x : Abs × Nat), (aF (p.foldl (fun x r => ((aMend x.1 r).2, x.2 + aBack x.1 r)) x).1 1 q = 0 ↔ aF x.1 1 q = 0 ∧ q ∉ p)
  | [], x => ⟨fun h => ⟨h, by simp⟩, fun h => h.1⟩
  | r :: p, x => by
    have := stg_lost' q p ((aMend x.1 r).2, x.2 + aBack x.1 r)
    show aF (p.foldl _ ((aMend x.1 r).2, x.2 + aBack x.1 r)).1 1 q = 0 ↔ _
    rw [this, mend_F1, List.mem_cons]
    by_cases y : q = r
    · rw [if_pos y]
      exact ⟨fun z => absurd z.1 (by decide), fun z => absurd (Or.inl y) z.2⟩
    · rw [if_neg y]
      exact ⟨fun z => ⟨z.1, fun w => w.elim y z.2⟩, fun z => ⟨z.1, fun w => z.2 (Or.inr w)⟩⟩
theorem stg_lost (a : Abs) (q : Nat) (p : List Nat) (h : aF a 1 q = 0) : aF (stg a p).1 1 q = 0 ↔ q ∉ p :=
  (stg_lost' q p (a, 0)).trans ⟨fun z => z.2, fun z => ⟨h, z⟩⟩
def ordOK (L p : List Nat) : Prop := p.Nodup ∧ ∀ r ∈ p, r ∈ L
theorem ord_pre {L p l : List Nat} (h : ordOK L (p ++ l)) : ordOK L p := ⟨h.1.sublist (List.sublist_append_left _ _), fun r hr => h.2 r (List.mem_append_left _ hr)⟩
section ENUM
variable (a : Abs) (L : List Nat) (J : Nat) (H : List Nat → Acc → Acc)
theorem enum_dfs (hJ : J ∉ L) (hL : ∀ r ∈ L, aF a 1 r = 0) (hn : L.length ≤ 4) (h1 : ∀ p x, ordOK L p → p.length = L.length → H p x = keepA (stg a p).2 p x) (h2 : ∀ p x, ¬ ordOK L p → H p x = x) : ∀ k p x, ordOK L p → p.length + k = L.length → enumL k (fun l y => H (p ++ l.map (fun d => L.getD d J)) y) x = dfs L k (stg a p).1 (stg a p).2 p x
  | 0, p, x, hp, hl => by
    show H (p ++ []) x = keepA (stg a p).2 p x
    rw [List.append_nil]
    exact h1 p x hp hl
  | k + 1, p, x, hp, hl => by
    show foldN (fun d y => enumL k (fun l y => H (p ++ L.getD d J :: l.map (fun d => L.getD d J)) y) y) x 4 = L.foldl _ x
    have hB : ∀ r y, enumL k (fun l y => H (p ++ r :: l.map (fun d => L.getD d J)) y) y = if r ∈ L ∧ aF (stg a p).1 1 r = 0 then dfs L k (aMend (stg a p).1 r).2 ((stg a p).2 + aBack (stg a p).1 r) (p ++ [r]) y else y := by
      intro r y
      by_cases q : r ∈ L ∧ aF (stg a p).1 1 r = 0
      · rw [if_pos q]
        have hr : r ∉ p := (stg_lost a r p (hL r q.1)).mp q.2
        have hp' : ordOK L (p ++ [r]) := by
          refine ⟨List.nodup_append.mpr ⟨hp.1, List.nodup_cons.mpr ⟨by simp, List.nodup_nil⟩, fun b hb c hc => ?_⟩, fun s hs => ?_⟩
          · rw [List.mem_singleton] at hc
            subst hc
            intro z
            subst z
            exact hr hb
          · rcases List.mem_append.mp hs with w | w
            · exact hp.2 s w
            · rw [List.mem_singleton] at w
              rw [w]
              exact q.1
        have := enum_dfs hJ hL hn h1 h2 k (p ++ [r]) y hp' (by rw [List.length_append, List.length_singleton]; omega)
        rw [stg_snoc] at this
        rw [← this]
        refine enum_congr k y (fun l z _ _ => ?_)
        rw [List.append_assoc]
        rfl
      · rw [if_neg q]
        refine enum_id k y (fun l z => h2 _ z (fun w => ?_))
        have hr : r ∈ L := w.2 r (List.mem_append_right _ (List.mem_cons_self ..))
        have : r ∉ p := by
          intro z
          have := List.nodup_append.mp w.1
          exact this.2.2 r z r (List.mem_cons_self ..) rfl
        exact q ⟨hr, (stg_lost a r p (hL r hr)).mpr this⟩
    rw [foldN_congr x 4 (fun d y _ => hB (L.getD d J) y), foldN_list (fun r y => if r ∈ L ∧ aF (stg a p).1 1 r = 0 then dfs L k (aMend (stg a p).1 r).2 ((stg a p).2 + aBack (stg a p).1 r) (p ++ [r]) y else y) J (fun y => if_neg (fun z => hJ z.1)) L 4 x hn]
    refine foldl_congr' L x (fun r hr y => ?_)
    by_cases q : aF (stg a p).1 1 r = 0
    · rw [if_pos ⟨hr, q⟩, if_pos q]
    · rw [if_neg (fun z => q z.2), if_neg q]
end ENUM
