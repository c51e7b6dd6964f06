/-! one order: both sides read it alike -/
def mOf (x : Int32) : Nat := if x = 119 then 3 else if x = 115 then 2 else if x = 97 ∨ x = 100 ∨ x = 108 ∨ x = 109 then 1 else 0
def sepOf (k : Nat) : Int32 := if k = 0 then 59 else 44
def rdN (t : Nat → Int32) : Nat → Nat → List Nat → Bool × Nat × List Nat
  | 0, q, L => (true, q, L)
  | k + 1, q, L => if (nf t q 3).1 = 0 then (false, q, L) else if t (q + (nf t q 3).1) = sepOf k then rdN t k (q + (nf t q 3).1 + 1) (L ++ [(nf t q 3).2]) else (false, q + (nf t q 3).1, L)
theorem rdN_le (t : Nat → Int32) : ∀ k q L, q ≤ (rdN t k q L).2.1 ∧ (rdN t k q L).2.1 ≤ q + 4 * k ∧ ((rdN t k q L).1 = true → (rdN t k q L).2.2.length = L.length + k)
  | 0, q, L => ⟨Nat.le_refl _, Nat.le_refl _, fun _ => rfl⟩
  | k + 1, q, L => by
    have h := (nf_le t q 3).1
    unfold rdN
    split
    · exact ⟨Nat.le_refl _, by show q ≤ _; omega, fun z => by cases z⟩
    · split
      · have ih := rdN_le t k (q + (nf t q 3).1 + 1) (L ++ [(nf t q 3).2])
        refine ⟨by omega, by omega, fun z => ?_⟩
        have := ih.2.2 z
        rw [List.length_append, List.length_singleton] at this
        omega
      · exact ⟨by show q ≤ q + _; omega, by show q + _ ≤ _; omega, fun z => by cases z⟩
def agL (L : List Nat) (g : Nat → Int32) : Prop := ∀ i, i < L.length → g i = nI (L.getD i 0)
theorem agL_snoc {L : List Nat} {g : Nat → Int32} (h : agL L g) (v : Nat) : agL (L ++ [v]) (upd g L.length (nI v)) := by
  intro i hi
  rw [List.length_append, List.length_singleton] at hi
  rw [List.getD_eq_getElem?_getD]
  by_cases y : i = L.length
  · subst y
    rw [pk_us, List.getElem?_append_right (Nat.le_refl _), Nat.sub_self]
    rfl
  · rw [pk_un y, h i (by omega), List.getElem?_append_left (by omega), ← List.getD_eq_getElem?_getD]
section READ
variable {n : Nat} {sg tx : Nat → Int32}
theorem C_rest (hn : n ≤ 60) (m : Nat) (hm : m ≤ 3) : ∀ k r q L nb F, r + k = m → L.length = r → q + 4 * k < 2 ^ 19 → k < F → agL L nb → ∃ z, itr (SX2_readOrder_30 (nI m) (nI n) sg) F (nI r, nI q, nb) = some z ∧ (((rdN (tAt n sg) k q L).1 = true ∧ ∃ nb', z = .inl (nI (rdN (tAt n sg) k q L).2.1, nb') ∧ agL (rdN (tAt n sg) k q L).2.2 nb') ∨ ((rdN (tAt n sg) k q L).1 = false ∧ ∃ nb', z = .inr (0, nI (rdN (tAt n sg) k q L).2.1, nb')))
  | 0, r, q, L, nb, F, h1, h2, h3, h4, h5 => by
    obtain ⟨F, rfl⟩ : ∃ G, F = G + 1 := ⟨F - 1, by omega⟩
    have : r = m := by omega
    subst this
    refine ⟨_, itr_r (step := SX2_readOrder_30 (nI r) (nI n) sg) (n := F) (s := (nI r, nI q, nb)) (by
      unfold SX2_readOrder_30
      dsimp only
      rw [if_pos (nI_le (Nat.le_refl _) (by omega))]
      rfl), Or.inl ⟨rfl, nb, rfl, h5⟩⟩
  | k + 1, r, q, L, nb, F, h1, h2, h3, h4, h5 => by
    obtain ⟨F, rfl⟩ : ∃ G, F = G + 1 := ⟨F - 1, by omega⟩
    have hd := (nf_le (tAt n sg) q 3).1
    have hv := (nf_le (tAt n sg) q 3).2
    have hstep : SX2_readOrder_30 (nI m) (nI n) sg (nI r, nI q, nb) = if (nf (tAt n sg) q 3).1 = 0 then some (.inr (.inr (0, nI q, nb))) else if tAt n sg (q + (nf (tAt n sg) q 3).1) = sepOf k then some (.inl (nI (r + 1), nI (q + (nf (tAt n sg) q 3).1 + 1), upd nb r (nI (nf (tAt n sg) q 3).2))) else some (.inr (.inr (0, nI (q + (nf (tAt n sg) q 3).1), nb))) := by
      unfold SX2_readOrder_30
      dsimp only
      rw [if_neg (nI_ge (by omega) (by omega)), if_neg (show ¬ (3 : Int32) ≤ nI r from nI_ge (b := 3) (by omega) (by omega)), C_number hn (by omega), Option.bind_some, nI_1, nI_1, C_sign hn (by omega), Option.bind_some, Option.bind_some]
      unfold nmI
      by_cases y : (nf (tAt n sg) q 3).1 = 0
      · rw [if_pos y, if_pos y, if_pos (show (-1 : Int32) < 0 by decide), if_pos (show (-1 : Int32) < 0 by decide), y, Nat.add_zero]
        split <;> rfl
      · rw [if_neg y, if_neg y, if_neg (nI_pos (by omega)), if_neg (nI_pos (by omega)), stA_nI _ (by omega) (by decide), Option.bind_some]
        by_cases k0 : k = 0
        · rw [if_pos (nI_le (show m ≤ r + 1 by omega) (by omega)), show sepOf k = 59 from if_pos k0]
        · rw [if_neg (nI_ge (show r + 1 < m by omega) (by omega)), show sepOf k = 44 from if_neg k0]
    unfold rdN
    by_cases y : (nf (tAt n sg) q 3).1 = 0
    · rw [if_pos y] at hstep
      rw [if_pos y]
      exact ⟨_, itr_r (step := SX2_readOrder_30 (nI m) (nI n) sg) hstep, Or.inr ⟨rfl, nb, rfl⟩⟩
    · rw [if_neg y] at hstep
      rw [if_neg y]
      by_cases w : tAt n sg (q + (nf (tAt n sg) q 3).1) = sepOf k
      · rw [if_pos w] at hstep
        rw [if_pos w]
        have ih := C_rest hn m hm k (r + 1) (q + (nf (tAt n sg) q 3).1 + 1) (L ++ [(nf (tAt n sg) q 3).2]) (upd nb r (nI (nf (tAt n sg) q 3).2)) F (by omega) (by rw [List.length_append, h2]; rfl) (by omega) (by omega) (by
          have := agL_snoc h5 (nf (tAt n sg) q 3).2
          rw [h2] at this
          exact this)
        rw [itr_l hstep]
        exact ih
      · rw [if_neg w] at hstep
        rw [if_neg w]
        exact ⟨_, itr_r (step := SX2_readOrder_30 (nI m) (nI n) sg) hstep, Or.inr ⟨rfl, nb, rfl⟩⟩
/-- what is behind the numbers on the other side -/
def mEnd (n : Nat) (tx : Nat → Int32) (o : Option (Int32 × Int32 × (Nat → Int32))) : Option (Int32 × Int32 × (Nat → Int32)) := o.bind fun j18 => (MX6_here (nI n) j18.1 tx).bind fun v27 => (((if v27 = 59 then some 1 else some 0) : Option Int32)).bind fun j30 => (MX6_takes j18.1 j18.2.1 j30).bind fun v34 => some (v34.1, v34.2, j18.2.2)
theorem M_dead (hn : n ≤ 60) (ht : ∀ k, k < n → sg k = tx k) (m : Nat) (hm : m ≤ 3) {u : Nat} (hu : u < 2 ^ 20) : ∀ k r tl F, r + k = m → k < F → ∃ g, mEnd n tx (itr (SX6_takesOrder_114 (nI m) (nI n) tx) F (nI r, nI u, 0, tl)) = some (nI u, 0, g)
  | 0, r, tl, F, h1, h4 => by
    obtain ⟨F, rfl⟩ : ∃ G, F = G + 1 := ⟨F - 1, by omega⟩
    have : r = m := by omega
    subst this
    rw [itr_r (step := SX6_takesOrder_114 (nI r) (nI n) tx) (n := F) (s := (nI r, nI u, 0, tl)) (r := (nI u, 0, tl)) (by
      unfold SX6_takesOrder_114
      dsimp only
      rw [if_pos (nI_le (Nat.le_refl _) (by omega))])]
    unfold mEnd
    rw [Option.bind_some, M_here hn (by omega) ht, Option.bind_some]
    refine ⟨tl, ?_⟩
    by_cases w : tAt n sg u = 59
    · rw [if_pos w, Option.bind_some]
      dsimp only
      rw [takes_n, Option.bind_some]
    · rw [if_neg w, Option.bind_some]
      dsimp only
      rw [takes_n, Option.bind_some]
  | k + 1, r, tl, F, h1, h4 => by
    obtain ⟨F, rfl⟩ : ∃ G, F = G + 1 := ⟨F - 1, by omega⟩
    obtain ⟨g, hg⟩ := M_num0 (n := n) (p := u) (tx := tx) (tl := tl) (show r < 3 by omega)
    have hstep : SX6_takesOrder_114 (nI m) (nI n) tx (nI r, nI u, 0, tl) = some (.inl (nI (r + 1), nI u, 0, g)) := by
      unfold SX6_takesOrder_114
      dsimp only
      rw [if_neg (nI_ge (by omega) (by omega)), hg, Option.bind_some, nI_1]
      rcases Nat.eq_zero_or_pos r with z | z
      · rw [if_pos (by rw [z]; decide)]
      · rw [if_neg (nI_nle z (by omega)), M_here hn (by omega) ht, Option.bind_some]
        by_cases w : tAt n sg u = 44
        · rw [if_pos w, takes_n, Option.bind_some]
          dsimp only
          rw [hg, Option.bind_some]
        · rw [if_neg w, takes_n, Option.bind_some]
          dsimp only
          rw [hg, Option.bind_some]
    rw [itr_l hstep]
    exact M_dead hn ht m hm hu k (r + 1) g F (by omega) (by omega)
def pend (t : Nat → Int32) (k u : Nat) (L : List Nat) : Bool × Nat × List Nat := if t u = sepOf k then rdN t k (u + 1) L else (false, u, L)
theorem rdN_pend (t : Nat → Int32) (k q : Nat) (L : List Nat) : rdN t (k + 1) q L = if (nf t q 3).1 = 0 then (false, q, L) else pend t k (q + (nf t q 3).1) (if t (q + (nf t q 3).1) = sepOf k then L ++ [(nf t q 3).2] else L) := by
  unfold pend
  show (if (nf t q 3).1 = 0 then (false, q, L) else if t (q + (nf t q 3).1) = sepOf k then rdN t k (q + (nf t q 3).1 + 1) (L ++ [(nf t q 3).2]) else (false, q + (nf t q 3).1, L)) = _
  by_cases y : (nf t q 3).1 = 0
  · rw [if_pos y, if_pos y]
  · rw [if_neg y, if_neg y]
    by_cases w : t (q + (nf t q 3).1) = sepOf k
    · rw [if_pos w, if_pos w, if_pos w]
    · rw [if_neg w, if_neg w, if_neg w]
/-- both results of reading -/
def ResM (R : Bool × Nat × List Nat) (o : Option (Int32 × Int32 × (Nat → Int32))) : Prop := (R.1 = true ∧ ∃ g, o = some (nI R.2.1, 1, g) ∧ agL R.2.2 g) ∨ (R.1 = false ∧ ∃ g, o = some (nI R.2.1, 0, g))
theorem M_live (hn : n ≤ 60) (ht : ∀ k, k < n → sg k = tx k) (m : Nat) (hm : m ≤ 3) : ∀ k r u L tl F, r + k = m → 0 < r → L.length = r → u + 4 * k < 2 ^ 19 → k < F → agL L tl → ResM (pend (tAt n sg) k u L) (mEnd n tx (itr (SX6_takesOrder_114 (nI m) (nI n) tx) F (nI r, nI u, 1, tl)))
  | 0, r, u, L, tl, F, h1, h0, h2, h3, h4, h5 => by
    obtain ⟨F, rfl⟩ : ∃ G, F = G + 1 := ⟨F - 1, by omega⟩
    have : r = m := by omega
    subst this
    rw [itr_r (step := SX6_takesOrder_114 (nI r) (nI n) tx) (n := F) (s := (nI r, nI u, 1, tl)) (r := (nI u, 1, tl)) (by
      unfold SX6_takesOrder_114
      dsimp only
      rw [if_pos (nI_le (Nat.le_refl _) (by omega))])]
    unfold mEnd pend
    rw [Option.bind_some, M_here hn (by omega) ht, Option.bind_some, show sepOf 0 = 59 from rfl]
    by_cases w : tAt n sg u = 59
    · rw [if_pos w, if_pos w, Option.bind_some]
      dsimp only
      rw [takes_1, Option.bind_some]
      exact Or.inl ⟨rfl, tl, rfl, h5⟩
    · rw [if_neg w, if_neg w, Option.bind_some]
      dsimp only
      rw [takes_0, Option.bind_some]
      exact Or.inr ⟨rfl, tl, rfl⟩
  | k + 1, r, u, L, tl, F, h1, h0, h2, h3, h4, h5 => by
    obtain ⟨F, rfl⟩ : ∃ G, F = G + 1 := ⟨F - 1, by omega⟩
    have hd := (nf_le (tAt n sg) (u + 1) 3).1
    unfold pend
    rw [show sepOf (k + 1) = 44 from rfl]
    by_cases w : tAt n sg u = 44
    · rw [if_pos w, rdN_pend]
      have hstep : SX6_takesOrder_114 (nI m) (nI n) tx (nI r, nI u, 1, tl) = some (.inl (nI (r + 1), nI (u + 1 + (nf (tAt n sg) (u + 1) 3).1), (if (nf (tAt n sg) (u + 1) 3).1 = 0 then 0 else 1), upd tl r (nI (nf (tAt n sg) (u + 1) 3).2))) := by
        unfold SX6_takesOrder_114
        dsimp only
        rw [if_neg (nI_ge (by omega) (by omega)), if_neg (nI_nle h0 (by omega)), M_here hn (by omega) ht, Option.bind_some, if_pos w, takes_1, Option.bind_some]
        dsimp only
        rw [M_num1 hn (by omega) ht (by omega), Option.bind_some, nI_1]
      rw [itr_l hstep]
      by_cases y : (nf (tAt n sg) (u + 1) 3).1 = 0
      · rw [if_pos y, if_pos y, y, Nat.add_zero]
        obtain ⟨g, hg⟩ := M_dead hn ht m hm (u := u + 1) (by omega) k (r + 1) (upd tl r (nI (nf (tAt n sg) (u + 1) 3).2)) F (by omega) (by omega)
        rw [hg]
        exact Or.inr ⟨rfl, g, rfl⟩
      · rw [if_neg y, if_neg y]
        have ag' : agL (L ++ [(nf (tAt n sg) (u + 1) 3).2]) (upd tl r (nI (nf (tAt n sg) (u + 1) 3).2)) := by
          have := agL_snoc h5 (nf (tAt n sg) (u + 1) 3).2
          rw [h2] at this
          exact this
        have ih := M_live hn ht m hm k (r + 1) (u + 1 + (nf (tAt n sg) (u + 1) 3).1) (L ++ [(nf (tAt n sg) (u + 1) 3).2]) (upd tl r (nI (nf (tAt n sg) (u + 1) 3).2)) F (by omega) (by omega) (by rw [List.length_append, h2]; rfl) (by omega) (by omega) ag'
        by_cases c : tAt n sg (u + 1 + (nf (tAt n sg) (u + 1) 3).1) = sepOf k
        · rw [if_pos c]
          exact ih
        · rw [if_neg c]
          unfold pend at ih ⊢
          rw [if_neg c] at ih ⊢
          rcases ih with ⟨z, _⟩ | ⟨_, g, z2⟩
          · cases z
          · exact Or.inr ⟨rfl, g, z2⟩
    · rw [if_neg w]
      obtain ⟨g0, hg0⟩ := M_num0 (n := n) (p := u) (tx := tx) (tl := tl) (show r < 3 by omega)
      have hstep : SX6_takesOrder_114 (nI m) (nI n) tx (nI r, nI u, 1, tl) = some (.inl (nI (r + 1), nI u, 0, g0)) := by
        unfold SX6_takesOrder_114
        dsimp only
        rw [if_neg (nI_ge (by omega) (by omega)), if_neg (nI_nle h0 (by omega)), M_here hn (by omega) ht, Option.bind_some, if_neg w, takes_0, Option.bind_some]
        dsimp only
        rw [hg0, Option.bind_some, nI_1]
      rw [itr_l hstep]
      obtain ⟨g, hg⟩ := M_dead hn ht m hm (u := u) (by omega) k (r + 1) g0 F (by omega) (by omega)
      rw [hg]
      exact Or.inr ⟨rfl, g, rfl⟩
theorem M_first (hn : n ≤ 60) (ht : ∀ k, k < n → sg k = tx k) (m : Nat) (hm : m ≤ 3) (h0 : 0 < m) {q : Nat} (hq : q < 2 ^ 18) (tl : Nat → Int32) : ResM (rdN (tAt n sg) m q []) (mEnd n tx (itr (SX6_takesOrder_114 (nI m) (nI n) tx) FU (0, nI q, 1, tl))) := by
  obtain ⟨k, rfl⟩ : ∃ k, m = k + 1 := ⟨m - 1, by omega⟩
  have hd := (nf_le (tAt n sg) q 3).1
  rw [rdN_pend]
  have hstep : SX6_takesOrder_114 (nI (k + 1)) (nI n) tx (0, nI q, 1, tl) = some (.inl (nI 1, nI (q + (nf (tAt n sg) q 3).1), (if (nf (tAt n sg) q 3).1 = 0 then 0 else 1), upd tl 0 (nI (nf (tAt n sg) q 3).2))) := by
    unfold SX6_takesOrder_114
    dsimp only
    rw [if_neg (show ¬ nI (k + 1) ≤ (0 : Int32) from nI_nle (by omega) (by omega)), if_pos (show (0 : Int32) ≤ 0 by decide), show MX6_takesNumber (nI n) (nI q) 1 tx tl 0 = some (nI (q + (nf (tAt n sg) q 3).1), if (nf (tAt n sg) q 3).1 = 0 then 0 else 1, upd tl 0 (nI (nf (tAt n sg) q 3).2)) from M_num1 (r := 0) hn (by omega) ht (by decide), Option.bind_some]
    rfl
  rw [show FU = 3999 + 1 from rfl, itr_l hstep]
  by_cases y : (nf (tAt n sg) q 3).1 = 0
  · rw [if_pos y, if_pos y, y, show q + 0 = q from rfl]
    obtain ⟨g, hg⟩ := M_dead hn ht (k + 1) hm (u := q) (by omega) k 1 (upd tl 0 (nI (nf (tAt n sg) q 3).2)) 3999 (by omega) (by omega)
    rw [hg]
    exact Or.inr ⟨rfl, g, rfl⟩
  · rw [if_neg y, if_neg y]
    have ag' : agL ([] ++ [(nf (tAt n sg) q 3).2]) (upd tl 0 (nI (nf (tAt n sg) q 3).2)) := agL_snoc (L := []) (fun i hi => absurd hi (Nat.not_lt_zero i)) _
    have ih := M_live hn ht (k + 1) hm k 1 (q + (nf (tAt n sg) q 3).1) [(nf (tAt n sg) q 3).2] (upd tl 0 (nI (nf (tAt n sg) q 3).2)) 3999 (by omega) (by omega) rfl (by omega) (by omega) ag'
    by_cases c : tAt n sg (q + (nf (tAt n sg) q 3).1) = sepOf k
    · rw [if_pos c]
      exact ih
    · rw [if_neg c]
      unfold pend at ih ⊢
      rw [if_neg c] at ih ⊢
      rcases ih with ⟨z, _⟩ | ⟨_, g, z2⟩
      · cases z
      · exact Or.inr ⟨rfl, g, z2⟩
end READ
