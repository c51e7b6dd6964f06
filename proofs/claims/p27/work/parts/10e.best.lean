/-! the best order: there is one, its rows are lost, and its sum is in bounds -/
def accOk (n m : Nat) (a0 : Abs) (x : Acc) : Prop := match x with
  | none => True
  | some y => y.1 ≤ 8 * m ∧ ∀ r ∈ y.2, r < n ∧ aF a0 1 r = 0
theorem foldN_ind {α : Type} {I : α → Prop} {g : Nat → α → α} : ∀ n {x : α}, I x → (∀ k y, k < n → I y → I (g k y)) → I (foldN g x n)
  | 0, _, h, _ => h
  | n + 1, x, h, hs => hs n _ (Nat.lt_succ_self n) (foldN_ind n h (fun k y hk => hs k y (by omega)))
theorem pds_ok (n m : Nat) (a0 : Abs) : ∀ k a g p x, g + 8 * k ≤ 8 * m → (∀ r ∈ p, r < n ∧ aF a0 1 r = 0) → (∀ r, r < n → aF a 1 r = 0 → aF a0 1 r = 0) → accOk n m a0 x → accOk n m a0 (pds n k a g p x)
  | 0, a, g, p, x, hg, hp, hl, hx => by
    show accOk n m a0 (keepA g p x)
    unfold keepA
    split
    · exact hx
    · exact ⟨by omega, hp⟩
  | k + 1, a, g, p, x, hg, hp, hl, hx => by
    refine foldN_ind (I := accOk n m a0) n hx (fun r y hr hy => ?_)
    split
    · next q =>
      have hb := aBack_le a r
      refine pds_ok n m a0 k _ _ _ y (by omega) (fun w hw => ?_) (fun w hw hw2 => ?_) hy
      · rcases List.mem_append.mp hw with z | z
        · exact hp w z
        · rw [List.mem_singleton] at z
          subst z
          exact ⟨hr, hl w hr q.1⟩
      · rw [mend_F1] at hw2
        split at hw2
        · cases hw2
        · exact hl w hw hw2
    · exact hy
theorem keep_nn {g : Nat} {p : List Nat} {x : Acc} (h : ∃ y, x = some y) : ∃ z, keepA g p x = some z := by
  unfold keepA
  split
  · exact h
  · exact ⟨_, rfl⟩
theorem pds_nn (n : Nat) : ∀ k a g p x, (∃ y, x = some y) → ∃ z, pds n k a g p x = some z
  | 0, _, _, _, _, h => keep_nn h
  | k + 1, a, g, p, x, h => by
    refine foldN_ind (I := fun z : Acc => ∃ y, z = some y) n h (fun r y _ hy => ?_)
    split
    · exact pds_nn n k _ _ _ y hy
    · exact hy
theorem pds_ex (n : Nat) : ∀ k a g p x, aG a 0 = n → aNl a = k → ∃ z, pds n k a g p x = some z
  | 0, a, g, p, x, _, _ => by
    show ∃ z, keepA g p x = some z
    unfold keepA
    split
    · next q =>
      cases x with
      | none =>
        have : (g : Int) ≤ -1 := q
        omega
      | some y => exact ⟨y, rfl⟩
    · exact ⟨_, rfl⟩
  | k + 1, a, g, p, x, hG, h => by
    obtain ⟨r, r1, r2⟩ := nl_pos h
    rw [hG] at r1
    have key : ∀ N, N ≤ n → r < N → ∃ z, foldN (fun r y => if aF a 1 r = 0 ∧ ¬ ((g + aStill a : Nat) : Int) ≤ aSum y then pds n k (aMend a r).2 (g + aBack a r) (p ++ [r]) y else y) x N = some z := by
      intro N
      induction N with
      | zero => exact fun _ h => absurd h (Nat.not_lt_zero _)
      | succ N ih =>
        intro hN hr
        show ∃ z, (if aF a 1 N = 0 ∧ ¬ ((g + aStill a : Nat) : Int) ≤ aSum (foldN _ x N) then pds n k (aMend a N).2 (g + aBack a N) (p ++ [N]) (foldN _ x N) else foldN _ x N) = some z
        by_cases q : r < N
        · have := ih (by omega) q
          split
          · exact pds_nn n k _ _ _ _ this
          · exact this
        · have : r = N := by omega
          subst this
          split
          · have hm := nl_mend (a := a) (r := r) (by omega) r2
            exact pds_ex n k _ _ _ _ (by rw [mend_G]; exact hG) (by omega)
          · next w =>
            cases e : foldN (fun r y => if aF a 1 r = 0 ∧ ¬ ((g + aStill a : Nat) : Int) ≤ aSum y then pds n k (aMend a r).2 (g + aBack a r) (p ++ [r]) y else y) x r with
            | some y => exact ⟨y, rfl⟩
            | none =>
              rw [e] at w
              exact absurd ⟨r2, fun z => absurd z (show ¬ ((g + aStill a : Nat) : Int) ≤ -1 by omega)⟩ w
    exact key n (Nat.le_refl n) r1
section BEST
variable {a : Abs} {f : Nat → Int32}
theorem best_of (a : Abs) : ∃ g p, pds (aG a 0) (aNl a) a 0 [] none = some (g, p) ∧ g ≤ 8 * aNl a ∧ ∀ r ∈ p, r < aG a 0 ∧ aF a 1 r = 0 := by
  obtain ⟨z, hz⟩ := pds_ex (aG a 0) (aNl a) a 0 [] none rfl rfl
  have := pds_ok (aG a 0) (aNl a) a (aNl a) a 0 [] none (by omega) (fun r hr => absurd hr List.not_mem_nil) (fun r _ h => h) trivial
  rw [hz] at this
  exact ⟨z.1, z.2, hz, this.1, this.2⟩
/-- order: an error where it must be, else a row that is lost -/
theorem ord_ok (h : RepC a f) (hi : aInv a) (su : Int32) (s0 s1 s2 s3 tr be : Nat → Int32) {k : Nat} (hk : k < 6) : ∃ z, MX5_order f su s0 s1 s2 s3 tr be (nI k - 1) = some z ∧ (if k = 0 then z.1 = -1000001 else if 4 < aNl a then z.1 = -1000003 else if aNl a ≤ k - 1 then z.1 = -1000004 else ∃ r, r < aG a 0 ∧ aF a 1 r = 0 ∧ z.1 = nI r) := by
  unfold MX5_order
  have hnl := nl_le a
  have hn := hi.1
  by_cases k0 : k = 0
  · subst k0
    rw [if_neg (show ¬ (0 : Int32) ≤ nI 0 - 1 by decide)]
    exact ⟨_, rfl, by rw [if_pos rfl]⟩
  · rw [nI_m1 (by omega), if_pos (nI_pos' (by omega))]
    rcases C_find h hi su s0 s1 s2 s3 tr be with ⟨q, e⟩ | ⟨q, z, e, z1, z2⟩
    · rw [e, Option.bind_some, if_neg (show ¬ (0 : Int32) ≤ -1000003 from nn_3)]
      exact ⟨_, rfl, by rw [if_neg k0, if_pos q]⟩
    · rw [e, Option.bind_some, z1, if_pos (nI_pos' (by omega))]
      by_cases w : aNl a ≤ k - 1
      · rw [if_pos (nI_le w (by omega))]
        exact ⟨_, rfl, by rw [if_neg k0, if_neg (by omega), if_pos w]⟩
      · rw [if_neg (nI_ge (by omega) (by omega))]
        obtain ⟨g, p, b1, b2, b3⟩ := best_of a
        rw [b1] at z2
        obtain ⟨y1, y2, y3, y4⟩ := z2
        unfold MX1_bestRow
        rw [if_neg (nI_pos (by omega)), if_neg (show ¬ (4 : Int32) ≤ nI (k - 1) from nI_ge (b := 4) (by omega) (by decide)), ldA_nI (by omega) (by decide), Option.bind_some, Option.bind_some, y4 (k - 1) (by omega)]
        have y3' : p.length = aNl a := y3
        have hm : p.getD (k - 1) 0 ∈ p := by
          rw [List.getD_eq_getElem?_getD, List.getElem?_eq_getElem (show k - 1 < p.length by omega)]
          exact List.getElem_mem _
        refine ⟨_, rfl, ?_⟩
        rw [if_neg k0, if_neg (by omega), if_neg w]
        exact ⟨_, (b3 _ hm).1, (b3 _ hm).2, rfl⟩
theorem com_ok (h : RepC a f) (hi : aInv a) (su : Int32) (s0 s1 s2 s3 tr be : Nat → Int32) : ∃ z, MX5_comes f su s0 s1 s2 s3 tr be = some z ∧ (if 4 < aNl a then z.1 = -1000003 else ∃ g, g ≤ 8 * aNl a ∧ z.1 = nI g) := by
  unfold MX5_comes
  have hnl := nl_le a
  have hn := hi.1
  rcases C_find h hi su s0 s1 s2 s3 tr be with ⟨q, e⟩ | ⟨q, z, e, z1, z2⟩
  · rw [e, Option.bind_some, if_neg (show ¬ (0 : Int32) ≤ -1000003 from nn_3)]
    exact ⟨_, rfl, by rw [if_pos q]⟩
  · rw [e, Option.bind_some, z1, if_pos (nI_pos' (by omega))]
    obtain ⟨g, p, b1, b2, b3⟩ := best_of a
    rw [b1] at z2
    refine ⟨_, rfl, ?_⟩
    rw [if_neg (by omega)]
    exact ⟨g, b2, z2.1⟩
end BEST
