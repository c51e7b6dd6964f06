/-! one order: both sides read it alike -/
def mOf (x : Int32) : Nat := if x = 119 then 3 else if x = 115 then 2 else if x = 97 ∨ x = 100 ∨ x = 108 ∨ x = 109 then 1 else 0
def sepOf (k : Nat) : Int32 := if k = 0 then 59 else 44
def rdN (t : Nat → Int32) : Nat → Nat → List Nat → Bool × Nat × List Nat
  | 0, q, L => (true, q, L)
  | k + 1, q, L => if (nf t q 3).1 = 0 then (false, q, L) else if t (q + (nf t q 3).1) = sepOf k then rdN t k (q + (nf t q 3).1 + 1) (L ++ [(nf t q 3).2]) else (false, q + (nf t q 3).1, L)
theorem rdN_le (t : Nat → Int32) : ∀ k q L, q ≤ (rdN t k q L).2.1 ∧ (rdN t k q L).2.1 ≤ q + 4 * k ∧ ((rdN t k q L).1 = true → (rdN t k q L).2.2.length = L.length + k)
  | 0, q, L => ⟨Nat.le_refl _, Nat.le_refl _, fun _ => rfl⟩
  | k + 1, q, L => by
    have h := (nf_le t q 3).1
    unfold rdN
    split
    · exact ⟨Nat.le_refl _, by show q ≤ _; omega, fun z => by cases z⟩
    · split
      · have ih := rdN_le t k (q + (nf t q 3).1 + 1) (L ++ [(nf t q 3).2])
        refine ⟨by omega, by omega, fun z => ?_⟩
        have := ih.2.2 z
        rw [List.length_append, List.length_singleton] at this
        omega
      · exact ⟨by show q ≤ q + _; omega, by show q + _ ≤ _; omega, fun z => by cases z⟩
def agL (L : List Nat) (g : Nat → Int32) : Prop := ∀ i, i < L.length → g i = nI (L.getD i 0)
theorem agL_snoc {L : List Nat} {g : Nat → Int32} (h : agL L g) (v : Nat) : agL (L ++ [v]) (upd g L.length (nI v)) := by
  intro i hi
  rw [List.length_append, List.length_singleton] at hi
  rw [List.getD_eq_getElem?_getD]
  by_cases y : i = L.length
  · subst y
    rw [pk_us, List.getElem?_append_right (Nat.le_refl _), Nat.sub_self]
    rfl
  · rw [pk_un y, h i (by omega), List.getElem?_append_left (by omega), ← List.getD_eq_getElem?_getD]
section READ
variable {n : Nat} {sg tx : Nat → Int32}
theorem C_rest (hn : n ≤ 60) (m : Nat) (hm : m ≤ 3) : ∀ k r q L nb F, r + k = m → L.length = r → q + 4 * k < 2 ^ 19 → k < F → agL L nb → ∃ z, itr (SX2_readOrder_30 (nI m) (nI n) sg) F (nI r, nI q, nb) = some z ∧ (((rdN (tAt n sg) k q L).1 = true ∧ ∃ nb', z = .inl (nI (rdN (tAt n sg) k q L).2.1, nb') ∧ agL (rdN (tAt n sg) k q L).2.2 nb') ∨ ((rdN (tAt n sg) k q L).1 = false ∧ ∃ nb', z = .inr (0, nI (rdN (tAt n sg) k q L).2.1, nb')))
  | 0, r, q, L, nb, F, h1, h2, h3, h4, h5 => by
    obtain ⟨F, rfl⟩ : ∃ G, F = G + 1 := ⟨F - 1, by omega⟩
    have : r = m := by omega
    subst this
    refine ⟨_, itr_r (step := SX2_readOrder_30 (nI r) (nI n) sg) (n := F) (s := (nI r, nI q, nb)) (by
      unfold SX2_readOrder_30
      dsimp only
      rw [if_pos (nI_le (Nat.le_refl _) (by omega))]
      rfl), Or.inl ⟨rfl, nb, rfl, h5⟩⟩
  | k + 1, r, q, L, nb, F, h1, h2, h3, h4, h5 => by
    obtain ⟨F, rfl⟩ : ∃ G, F = G + 1 := ⟨F - 1, by omega⟩
    have hd := (nf_le (tAt n sg) q 3).1
    have hv := (nf_le (tAt n sg) q 3).2
    have hstep : SX2_readOrder_30 (nI m) (nI n) sg (nI r, nI q, nb) = if (nf (tAt n sg) q 3).1 = 0 then some (.inr (.inr (0, nI q, nb))) else if tAt n sg (q + (nf (tAt n sg) q 3).1) = sepOf k then some (.inl (nI (r + 1), nI (q + (nf (tAt n sg) q 3).1 + 1), upd nb r (nI (nf (tAt n sg) q 3).2))) else some (.inr (.inr (0, nI (q + (nf (tAt n sg) q 3).1), nb))) := by
      unfold SX2_readOrder_30
      dsimp only
      rw [if_neg (nI_ge (by omega) (by omega)), if_neg (show ¬ (3 : Int32) ≤ nI r from nI_ge (b := 3) (by omega) (by omega)), C_number hn (by omega), Option.bind_some, nI_1, nI_1, C_sign hn (by omega), Option.bind_some, Option.bind_some]
      unfold nmI
      by_cases y : (nf (tAt n sg) q 3).1 = 0
      · rw [if_pos y, if_pos y, if_pos (show (-1 : Int32) < 0 by decide), if_pos (show (-1 : Int32) < 0 by decide), y, Nat.add_zero]
        split <;> rfl
      · rw [if_neg y, if_neg y, if_neg (nI_pos (by omega)), if_neg (nI_pos (by omega)), stA_nI _ (by omega) (by decide), Option.bind_some]
        by_cases k0 : k = 0
        · rw [if_pos (nI_le (show m ≤ r + 1 by omega) (by omega)), show sepOf k = 59 from if_pos k0]
        · rw [if_neg (nI_ge (show r + 1 < m by omega) (by omega)), show sepOf k = 44 from if_neg k0]
    unfold rdN
    by_cases y : (nf (tAt n sg) q 3).1 = 0
    · rw [if_pos y] at hstep
      rw [if_pos y]
      exact ⟨_, itr_r (step := SX2_readOrder_30 (nI m) (nI n) sg) hstep, Or.inr ⟨rfl, nb, rfl⟩⟩
    · rw [if_neg y] at hstep
      rw [if_neg y]
      by_cases w : tAt n sg (q + (nf (tAt n sg) q 3).1) = sepOf k
      · rw [if_pos w] at hstep
        rw [if_pos w]
        have ih := C_rest hn m hm k (r + 1) (q + (nf (tAt n sg) q 3).1 + 1) (L ++ [(nf (tAt n sg) q 3).2]) (upd nb r (nI (nf (tAt n sg) q 3).2)) F (by omega) (by rw [List.length_append, h2]; rfl) (by omega) (by omega) (by
          have := agL_snoc h5 (nf (tAt n sg) q 3).2
          rw [h2] at this
          exact this)
        rw [itr_l hstep]
        exact ih
      · rw [if_neg w] at hstep
        rw [if_neg w]
        exact ⟨_, itr_r (step := SX2_readOrder_30 (nI m) (nI n) sg) hstep, Or.inr ⟨rfl, nb, rfl⟩⟩
def pend (t : Nat → Int32) (k u : Nat) (L : List Nat) : Bool × Nat × List Nat := if t u = sepOf k then rdN t k (u + 1) L else (false, u, L)
theorem rdN_pend (t : Nat → Int32) (k q : Nat) (L : List Nat) : rdN t (k + 1) q L = if (nf t q 3).1 = 0 then (false, q, L) else pend t k (q + (nf t q 3).1) (if t (q + (nf t q 3).1) = sepOf k then L ++ [(nf t q 3).2] else L) := by
  unfold pend
  show (if (nf t q 3).1 = 0 then (false, q, L) else if t (q + (nf t q 3).1) = sepOf k then rdN t k (q + (nf t q 3).1 + 1) (L ++ [(nf t q 3).2]) else (false, q + (nf t q 3).1, L)) = _
  by_cases y : (nf t q 3).1 = 0
  · rw [if_pos y, if_pos y]
  · rw [if_neg y, if_neg y]
    by_cases w : t (q + (nf t q 3).1) = sepOf k
    · rw [if_pos w, if_pos w, if_pos w]
    · rw [if_neg w, if_neg w, if_neg w]
/-- both results of reading -/
def ResM (R : Bool × Nat × List Nat) (o : Option (Int32 × Int32 × (Nat → Int32))) : Prop := (R.1 = true ∧ ∃ g, o = some (nI R.2.1, 1, g) ∧ agL R.2.2 g) ∨ (R.1 = false ∧ ∃ g, o = some (nI R.2.1, 0, g))
end READ
