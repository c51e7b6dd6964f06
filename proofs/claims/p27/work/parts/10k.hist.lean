/-! the states before, and each change with them -/
def HisC (H : List Abs) (io im : Int32) (gs : Nat → Nat → Int32) : Prop := H.length ≤ 4 ∧ im = nI H.length ∧ ∃ o, o < 5 ∧ io = nI o ∧ ∀ k b, H[k]? = some b → RepC b (gs ((o + k) % 5))
def LInv (N : Nat) (a : Abs) (H : List Abs) (f : Nat → Int32) (io im : Int32) (gs : Nat → Nat → Int32) : Prop := RepC a f ∧ GoodA N a ∧ HisC H io im gs ∧ ∀ b ∈ H, GoodA N b
def nxH (H : List Abs) (a : Abs) (x : Int32) : List Abs := if 0 ≤ x then pushH H a else H
theorem push_mem {H : List Abs} {a b : Abs} (h : b ∈ pushH H a) : b ∈ H ∨ b = a := by
  unfold pushH at h
  split at h
  · rcases List.mem_append.mp h with w | w
    · exact Or.inl (List.mem_of_mem_drop w)
    · exact Or.inr (List.mem_singleton.mp w)
  · rcases List.mem_append.mp h with w | w
    · exact Or.inl w
    · exact Or.inr (List.mem_singleton.mp w)
section HISC
variable {a : Abs} {f : Nat → Int32} {io im : Int32} {gs : Nat → Nat → Int32} {H : List Abs} {N : Nat}
theorem hist_C (h : RepC a f) (hi : aInv a) (hh : HisC H io im gs) : ∃ v1, MX0_note io im gs f = some v1 ∧ HisC H io im v1 ∧ (∃ io' im', HisC (pushH H a) io' im' v1 ∧ ∀ x, 0 ≤ x → MX0_keepUnlessError io im x = some (x, io', im')) ∧ (∀ x, ¬ 0 ≤ x → MX0_keepUnlessError io im x = some (x, io, im)) := by
  obtain ⟨h1, rfl, o, ho, rfl, hk⟩ := hh
  obtain ⟨v, c1, c2⟩ := C_copy (gs ((o + H.length) % 5)) f
  have hnote : MX0_note (nI o) (nI H.length) gs f = some (va_up gs ((o + H.length) % 5) v) := by
    unfold MX0_note
    rw [state_at o _ (by omega) (by omega), Option.bind_some, c1, Option.bind_some]
  have hneg : ∀ x, ¬ 0 ≤ x → MX0_keepUnlessError (nI o) (nI H.length) x = some (x, nI o, nI H.length) := by
    intro x hx
    unfold MX0_keepUnlessError
    rw [if_neg hx]
  have hold : ∀ k b, H[k]? = some b → RepC b (va_up gs ((o + H.length) % 5) v ((o + k) % 5)) := by
    intro k b hb
    have hlt : k < H.length := by
      rcases Nat.lt_or_ge k H.length with w | w
      · exact w
      · rw [List.getElem?_eq_none w] at hb
        cases hb
    have : va_up gs ((o + H.length) % 5) v ((o + k) % 5) = gs ((o + k) % 5) := if_neg (mod5_ne hlt (by omega))
    rw [this]
    exact hk k b hb
  have hnew : va_up gs ((o + H.length) % 5) v ((o + H.length) % 5) = v := if_pos rfl
  have hrep : RepC a v := RepC_agree h hi c2
  refine ⟨_, hnote, ⟨h1, rfl, o, ho, rfl, hold⟩, ?_, hneg⟩
  by_cases q : H.length = 4
  · refine ⟨nI ((o + 1) % 5), nI H.length, ?_, fun x hx => ?_⟩
    · have hlen : (pushH H a).length = 4 := by
        unfold pushH
        rw [if_pos q, List.length_append, List.length_drop, q]
        rfl
      refine ⟨by omega, by rw [hlen, q], (o + 1) % 5, Nat.mod_lt _ (by decide), rfl, fun k b hb => ?_⟩
      unfold pushH at hb
      rw [if_pos q] at hb
      have hdl : (H.drop 1).length = 3 := by rw [List.length_drop, q]
      rcases Nat.lt_or_ge k 3 with y | y
      · rw [List.getElem?_append_left (by omega), List.getElem?_drop] at hb
        have := hold (1 + k) b hb
        rw [show ((o + 1) % 5 + k) % 5 = (o + (1 + k)) % 5 by omega]
        exact this
      · rw [List.getElem?_append_right (by omega), hdl] at hb
        have hk3 : k = 3 := by
          rcases Nat.lt_or_ge (k - 3) 1 with z | z
          · omega
          · rw [List.getElem?_eq_none (by rw [List.length_singleton]; exact z)] at hb
            cases hb
        subst hk3
        have hb : a = b := Option.some.inj hb
        subst hb
        rw [show ((o + 1) % 5 + 3) % 5 = (o + H.length) % 5 by omega, hnew]
        exact hrep
    · unfold MX0_keepUnlessError
      rw [if_pos hx, q, if_pos (show (4 : Int32) ≤ nI 4 from by decide), nI_1, show (5 : Int32) = nI 5 from rfl, pk_rem (by omega) (by decide) (by decide)]
  · refine ⟨nI o, nI (H.length + 1), ?_, fun x hx => ?_⟩
    · have hlen : (pushH H a).length = H.length + 1 := by
        unfold pushH
        rw [if_neg q, List.length_append]
        rfl
      refine ⟨by omega, by rw [hlen], o, ho, rfl, fun k b hb => ?_⟩
      unfold pushH at hb
      rw [if_neg q] at hb
      rcases Nat.lt_or_ge k H.length with y | y
      · rw [List.getElem?_append_left y] at hb
        exact hold k b hb
      · rw [List.getElem?_append_right y] at hb
        have hk0 : k = H.length := by
          rcases Nat.lt_or_ge (k - H.length) 1 with z | z
          · omega
          · rw [List.getElem?_eq_none (by rw [List.length_singleton]; exact z)] at hb
            cases hb
        subst hk0
        rw [Nat.sub_self] at hb
        have hb : a = b := Option.some.inj hb
        subst hb
        rw [hnew]
        exact hrep
    · unfold MX0_keepUnlessError
      rw [if_pos hx, if_neg (show ¬ (4 : Int32) ≤ nI H.length from nI_ge (b := 4) (by omega) (by omega)), nI_1]
theorem nx_good {o : Int32 × Abs} (hg : GoodA N a) (hH : ∀ b ∈ H, GoodA N b) (ok : okO N a o) : GoodA (N + 1) o.2 ∧ ∀ b ∈ nxH H a o.1, GoodA (N + 1) b := by
  constructor
  · rcases ok with ⟨_, e⟩ | ⟨_, e⟩
    · rw [e]; exact hg.mono (Nat.le_succ N)
    · exact e
  · intro b hb
    unfold nxH at hb
    split at hb
    · rcases push_mem hb with w | w
      · exact (hH b w).mono (Nat.le_succ N)
      · rw [w]; exact hg.mono (Nat.le_succ N)
    · exact (hH b hb).mono (Nat.le_succ N)
theorem mut_C (hI : LInv N a H f io im gs) {C : Option (Int32 × (Nat → Int32))} {o : Int32 × Abs} (hC : ∃ g, C = some (o.1, g) ∧ RepC o.2 g) (ok : okO N a o) : ∃ z, (MX0_note io im gs f).bind (fun v1 => C.bind fun v4 => (MX0_keepUnlessError io im v4.1).bind fun v7 => some (v7.1, v4.2, v7.2.1, v7.2.2, v1)) = some z ∧ z.1 = o.1 ∧ LInv (N + 1) o.2 (nxH H a o.1) z.2.1 z.2.2.1 z.2.2.2.1 z.2.2.2.2 := by
  obtain ⟨h, hg, hh, hH⟩ := hI
  obtain ⟨v1, e1, e2, ⟨io', im', e3, e4⟩, e5⟩ := hist_C h hg.1 hh
  obtain ⟨g, g1, g2⟩ := hC
  have hn := nx_good hg hH ok
  rw [e1, Option.bind_some, g1, Option.bind_some]
  by_cases q : 0 ≤ o.1
  · rw [e4 _ q, Option.bind_some]
    refine ⟨_, rfl, rfl, g2, hn.1, ?_, hn.2⟩
    unfold nxH
    rw [if_pos q]
    exact e3
  · rw [e5 _ q, Option.bind_some]
    refine ⟨_, rfl, rfl, g2, hn.1, ?_, hn.2⟩
    unfold nxH
    rw [if_neg q]
    exact e2
theorem mt_write (hI : LInv N a H f io im gs) {r c v : Nat} (hr : r < 2 ^ 31) (hc : c < 2 ^ 31) (hv : v < 2 ^ 31) : ∃ z, MX5_write f io im gs (nI r) (nI c) (nI v) = some z ∧ z.1 = (oWrite a r c v).1 ∧ LInv (N + 1) (oWrite a r c v).2 (nxH H a (oWrite a r c v).1) z.2.1 z.2.2.1 z.2.2.2.1 z.2.2.2.2 :=
  mut_C hI (go_write hI.1 hI.2.1.1 hr hc hv) (ok_write hI.2.1 r c v)
theorem mt_lose (hI : LInv N a H f io im gs) {r : Nat} (hr : r < 2 ^ 31) : ∃ z, MX5_lose f io im gs (nI r) = some z ∧ z.1 = (oLose a r).1 ∧ LInv (N + 1) (oLose a r).2 (nxH H a (oLose a r).1) z.2.1 z.2.2.1 z.2.2.2.1 z.2.2.2.2 :=
  mut_C hI (go_lose hI.1 hI.2.1.1 hr) (ok_lose hI.2.1 r)
theorem mt_mend (hI : LInv N a H f io im gs) {r : Nat} (hr : r < 2 ^ 31) : ∃ z, MX5_mend f io im gs (nI r) = some z ∧ z.1 = (oMend a r).1 ∧ LInv (N + 1) (oMend a r).2 (nxH H a (oMend a r).1) z.2.1 z.2.2.1 z.2.2.2.1 z.2.2.2.2 :=
  mut_C hI (go_mend hI.1 hI.2.1.1 hr) (ok_mend hI.2.1 r)
theorem mt_lay (hI : LInv N a H f io im gs) {r : Nat} (hr : r < 2 ^ 31) : ∃ z, MX5_lay f io im gs (nI r) = some z ∧ z.1 = (oLay a r).1 ∧ LInv (N + 1) (oLay a r).2 (nxH H a (oLay a r).1) z.2.1 z.2.2.1 z.2.2.2.1 z.2.2.2.2 :=
  mut_C hI (go_lay hI.1 hI.2.1.1 hr) (ok_lay hI.2.1 r)
theorem mt_swap (hI : LInv N a H f io im gs) {x y : Nat} (hx : x < 2 ^ 31) (hy : y < 2 ^ 31) : ∃ z, MX5_swap f io im gs (nI x) (nI y) = some z ∧ z.1 = (oSwap a x y).1 ∧ LInv (N + 1) (oSwap a x y).2 (nxH H a (oSwap a x y).1) z.2.1 z.2.2.1 z.2.2.2.1 z.2.2.2.2 :=
  mut_C hI (go_swap hI.1 hI.2.1.1 hx hy) (ok_swap hI.2.1 x y)
theorem mt_days (hI : LInv N a H f io im gs) {m : Nat} (hm : m < 2 ^ 31) : ∃ z, MX5_days f io im gs (nI m) = some z ∧ z.1 = (oDays a m).1 ∧ LInv (N + 1) (oDays a m).2 (nxH H a (oDays a m).1) z.2.1 z.2.2.1 z.2.2.2.1 z.2.2.2.2 :=
  mut_C hI (go_days hI.1 hI.2.1.1 hm) (ok_days hI.2.1 m)
theorem mt_set (hI : LInv N a H f io im gs) {w x : Nat} (hw : w < 2 ^ 31) (hx : x < 2 ^ 31) : ∃ z, MX5_set f io im gs (nI w) (nI x) = some z ∧ z.1 = (oSet a w x).1 ∧ LInv (N + 1) (oSet a w x).2 (nxH H a (oSet a w x).1) z.2.1 z.2.2.1 z.2.2.2.1 z.2.2.2.2 :=
  mut_C hI (go_set hI.1 hI.2.1.1 hw hx) (ok_set hI.2.1 w x)
theorem mt_begin (hI : LInv N a H f io im gs) {m : Nat} (hm : m < 2 ^ 31) : ∃ z, MX5_begin f io im gs (nI m) = some z ∧ z.1 = (oBegin a m).1 ∧ LInv (N + 1) (oBegin a m).2 (nxH H a (oBegin a m).1) z.2.1 z.2.2.1 z.2.2.2.1 z.2.2.2.2 :=
  mut_C hI (go_begin hI.1 hI.2.1.1 hm) (ok_begin hI.2.1 m)
theorem undo_0 (h : HisC [] io im gs) : MX5_undo f io im gs = some (-1000002, f, im) := by
  obtain ⟨_, rfl, _⟩ := h
  unfold MX5_undo MX0_bringBack
  rw [if_pos (show nI ([] : List Abs).length = 0 from rfl), Option.bind_some]
theorem undo_1 {H0 : List Abs} {b : Abs} (h : HisC (H0 ++ [b]) io im gs) (hb : aInv b) : ∃ f', MX5_undo f io im gs = some (nI H0.length, f', nI H0.length) ∧ RepC b f' ∧ HisC H0 io (nI H0.length) gs := by
  obtain ⟨h1, rfl, o, ho, rfl, hk⟩ := h
  have hl : (H0 ++ [b]).length = H0.length + 1 := by rw [List.length_append]; rfl
  rw [hl] at h1 ⊢
  obtain ⟨v, c1, c2⟩ := C_copy f (gs ((o + H0.length) % 5))
  refine ⟨v, ?_, ?_, by omega, rfl, o, ho, rfl, fun k c hc => hk k c ?_⟩
  · unfold MX5_undo MX0_bringBack
    rw [if_neg (nI_ne0 (by omega) (by omega)), nI_m1 (by omega), Nat.add_sub_cancel, state_at o _ (by omega) (by omega), Option.bind_some, c1, Option.bind_some, Option.bind_some]
  · refine RepC_agree (hk H0.length b ?_) hb c2
    rw [List.getElem?_append_right (Nat.le_refl _), Nat.sub_self]
    rfl
  · have hlt : k < H0.length := by
      rcases Nat.lt_or_ge k H0.length with w | w
      · exact w
      · rw [List.getElem?_eq_none w] at hc
        cases hc
    rw [List.getElem?_append_left hlt]
    exact hc
end HISC
