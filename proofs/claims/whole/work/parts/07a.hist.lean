/-! the states before: a ring of five against a row of four -/
def His (H : List Abs) (io im kn : Int32) (gs : Nat → Nat → Int32) (pa : Nat → Int32) : Prop :=
  H.length ≤ 4 ∧ im = nI H.length ∧ kn = nI H.length ∧ ∃ o, o < 5 ∧ io = nI o ∧ ∀ k a, H[k]? = some a → Two a (gs ((o + k) % 5)) (fun j => pa (703 * k + j))
def pushH (H : List Abs) (a : Abs) : List Abs := if H.length = 4 then H.drop 1 ++ [a] else H ++ [a]
section HIST
variable {a : Abs} {f s pa : Nat → Int32} {kn io im : Int32} {gs : Nat → Nat → Int32} {H : List Abs}
theorem two_agree {f' s' : Nat → Int32} (h : Two a f s) (e1 : ∀ j, j < 352 → f' j = f j) (e2 : ∀ j, j < 703 → s' j = s j) : Two a f' s' :=
  ⟨RepC_agree h.1 h.2.2.2.1 e1, RepN_agree h.2.1 h.2.2.2.1 e2, RepW_agree h.2.2.1 h.2.2.2.1 e2, h.2.2.2⟩
theorem state_at (o m : Nat) (ho : o < 2 ^ 20) (hm : m < 2 ^ 20) : MX0_stateAt (nI o) (nI m) = some ((o + m) % 5) := by
  unfold MX0_stateAt
  rw [show (5 : Int32) = nI 5 from rfl, nI_add, pk_rem (by omega) (by decide) (by decide), if_neg (show ¬ nI ((o + m) % 5) < 0 from nI_pos (by omega))]
  unfold ixA
  rw [inb_nI (Nat.mod_lt _ (by decide)) (by decide), if_pos rfl]
  have h : (nI ((o + m) % 5)).toNatClampNeg = (o + m) % 5 := by
    show (nI ((o + m) % 5)).toInt.toNat = _
    rw [nI_toInt (by omega)]
    rfl
  rw [h]
theorem ix703 (k : Nat) : (703 : Int32) * nI k = nI (703 * k) := by
  show nI 703 * nI k = nI (703 * k)
  exact (Int32.ofNat_mul 703 k).symm
theorem M_shift (pa : Nat → Int32) : ∃ v, itr (SX6_records_10) FU (0, pa) = some v ∧ ∀ j, j < 2109 → v j = pa (j + 703) := by
  have e0 : pa = (fun j => if j < 0 then pa (j + 703) else pa j) := funext fun j => (if_neg (Nat.not_lt_zero j)).symm
  have := itr_for (step := SX6_records_10) 2109 (fun k => (nI k, fun j => if j < k then pa (j + 703) else pa j)) (fun j => if j < 2109 then pa (j + 703) else pa j) (fun k hk => by
    unfold SX6_records_10
    dsimp only
    rw [if_neg (show ¬ (2109 : Int32) ≤ nI k from nI_ge (b := 2109) hk (by omega)), show (703 : Int32) = nI 703 from rfl, nI_add, ldA_nI (by omega) (by decide), Option.bind_some, stA_nI _ (by omega) (by decide), Option.bind_some, nI_1]
    rw [if_neg (show ¬ k + 703 < k by omega)]
    congr 3
    funext j
    by_cases y : j = k
    · subst y
      rw [pk_us, if_pos (Nat.lt_succ_self _)]
    · rw [pk_un y]
      by_cases z : j < k
      · rw [if_pos z, if_pos (by omega)]
      · rw [if_neg z, if_neg (by omega)]) (by
    unfold SX6_records_10
    dsimp only
    rw [if_pos (show (2109 : Int32) ≤ nI 2109 from by decide)]) FU (FU_lt (by decide))
  rw [← e0] at this
  exact ⟨_, this, fun j hj => if_pos hj⟩
theorem mod5_ne {o k m : Nat} (h1 : k < m) (h2 : m < k + 5) : ¬ (o + k) % 5 = (o + m) % 5 := by omega
theorem hist_step (h : Two a f s) (hh : His H io im kn gs pa) : ∃ v1 R io' im', MX0_note io im gs f = some v1 ∧ MX6_records kn s pa = some R ∧ (∀ x, 0 ≤ x → MX0_keepUnlessError io im x = some (x, io', im')) ∧ (∀ x, x < 0 → MX0_keepUnlessError io im x = some (x, io, im)) ∧ His H io im kn v1 pa ∧ His (pushH H a) io' im' R.1 v1 R.2 := by
  obtain ⟨h1, rfl, rfl, o, ho, rfl, hk⟩ := hh
  obtain ⟨v, c1, c2⟩ := C_copy (gs ((o + H.length) % 5)) f
  have hnote : MX0_note (nI o) (nI H.length) gs f = some (va_up gs ((o + H.length) % 5) v) := by
    unfold MX0_note
    rw [state_at o _ (by omega) (by omega), Option.bind_some, c1, Option.bind_some]
  have hneg : ∀ x, x < 0 → MX0_keepUnlessError (nI o) (nI H.length) x = some (x, nI o, nI H.length) := by
    intro x hx
    unfold MX0_keepUnlessError
    rw [if_neg (by
      intro z
      rw [Int32.le_iff_toInt_le] at z
      rw [Int32.lt_iff_toInt_lt] at hx
      omega)]
  have hold : ∀ k b, H[k]? = some b → Two b (va_up gs ((o + H.length) % 5) v ((o + k) % 5)) (fun j => pa (703 * k + j)) := by
    intro k b hb
    have hlt : k < H.length := by
      rcases Nat.lt_or_ge k H.length with w | w
      · exact w
      · rw [List.getElem?_eq_none w] at hb
        cases hb
    have : va_up gs ((o + H.length) % 5) v ((o + k) % 5) = gs ((o + k) % 5) := if_neg (mod5_ne hlt (by omega))
    rw [this]
    exact hk k b hb
  have hnew : va_up gs ((o + H.length) % 5) v ((o + H.length) % 5) = v := if_pos rfl
  by_cases q : H.length = 4
  · obtain ⟨p, p1, p2⟩ := M_shift pa
    obtain ⟨w, w1, w2, w3⟩ := M_copies (n0 := 703) (n2 := 2812) (o1 := 0) (o3 := 2109) s p (by decide) (by decide) (by decide) (by decide)
    refine ⟨_, (nI 4, w), nI ((o + 1) % 5), nI H.length, hnote, ?_, fun x hx => ?_, hneg, ⟨h1, rfl, rfl, o, ho, rfl, hold⟩, ?_⟩
    · unfold MX6_records
      rw [q, if_pos (show nI 4 = (4 : Int32) from rfl), p1, Option.bind_some, Option.bind_some]
      dsimp only
      rw [show MX6_copies 703 2812 s p 0 (703 * (nI 4 - 1)) = some w from w1, Option.bind_some]
      rfl
    · unfold MX0_keepUnlessError
      rw [if_pos hx, q, if_pos (show (4 : Int32) ≤ nI 4 from by decide), nI_1, show (5 : Int32) = nI 5 from rfl, pk_rem (by omega) (by decide) (by decide)]
    · have hlen : (pushH H a).length = 4 := by
        unfold pushH
        rw [if_pos q, List.length_append, List.length_drop, q]
        rfl
      refine ⟨by omega, by rw [hlen, q], by rw [hlen], (o + 1) % 5, Nat.mod_lt _ (by decide), rfl, fun k b hb => ?_⟩
      unfold pushH at hb
      rw [if_pos q] at hb
      have hdl : (H.drop 1).length = 3 := by rw [List.length_drop, q]
      rcases Nat.lt_or_ge k 3 with y | y
      · rw [List.getElem?_append_left (by omega), List.getElem?_drop] at hb
        have := hold (1 + k) b hb
        rw [show ((o + 1) % 5 + k) % 5 = (o + (1 + k)) % 5 by omega]
        refine two_agree this (fun _ _ => rfl) (fun j hj => ?_)
        dsimp only
        rw [w3 (703 * k + j) (Or.inl (by omega)), p2 (703 * k + j) (by omega), show 703 * k + j + 703 = 703 * (1 + k) + j by omega]
      · rw [List.getElem?_append_right (by omega), hdl] at hb
        have hk3 : k = 3 := by
          rcases Nat.lt_or_ge (k - 3) 1 with z | z
          · omega
          · rw [List.getElem?_eq_none (by rw [List.length_singleton]; exact z)] at hb
            cases hb
        subst hk3
        have hb : a = b := Option.some.inj hb
        subst hb
        rw [show ((o + 1) % 5 + 3) % 5 = (o + H.length) % 5 by omega, hnew]
        refine two_agree h (fun j hj => c2 j hj) (fun j hj => ?_)
        have := w2 j hj
        rw [Nat.zero_add] at this
        exact this
  · obtain ⟨w, w1, w2, w3⟩ := M_copies (n0 := 703) (n2 := 2812) (o1 := 0) (o3 := 703 * H.length) s pa (by decide) (by decide) (by decide) (by omega)
    refine ⟨_, (nI (H.length + 1), w), nI o, nI (H.length + 1), hnote, ?_, fun x hx => ?_, hneg, ⟨h1, rfl, rfl, o, ho, rfl, hold⟩, ?_⟩
    · unfold MX6_records
      rw [if_neg (show ¬ nI H.length = (4 : Int32) from fun z => q ((nI_eq (b := 4) (by omega) (by omega)).mp z)), Option.bind_some]
      dsimp only
      rw [ix703, show MX6_copies 703 2812 s pa 0 (nI (703 * H.length)) = some w from w1, Option.bind_some, nI_1]
    · unfold MX0_keepUnlessError
      rw [if_pos hx, if_neg (show ¬ (4 : Int32) ≤ nI H.length from nI_ge (b := 4) (by omega) (by omega)), nI_1]
    · have hlen : (pushH H a).length = H.length + 1 := by
        unfold pushH
        rw [if_neg q, List.length_append]
        rfl
      refine ⟨by omega, by rw [hlen], by rw [hlen], o, ho, rfl, fun k b hb => ?_⟩
      unfold pushH at hb
      rw [if_neg q] at hb
      rcases Nat.lt_or_ge k H.length with y | y
      · rw [List.getElem?_append_left y] at hb
        refine two_agree (hold k b hb) (fun _ _ => rfl) (fun j hj => ?_)
        have : 703 * k + 703 ≤ 703 * H.length := by omega
        exact w3 (703 * k + j) (Or.inl (by omega))
      · rw [List.getElem?_append_right y] at hb
        have hk0 : k = H.length := by
          rcases Nat.lt_or_ge (k - H.length) 1 with z | z
          · omega
          · rw [List.getElem?_eq_none (by rw [List.length_singleton]; exact z)] at hb
            cases hb
        subst hk0
        rw [Nat.sub_self] at hb
        have hb : a = b := Option.some.inj hb
        subst hb
        rw [hnew]
        refine two_agree h (fun j hj => c2 j hj) (fun j hj => ?_)
        have := w2 j hj
        rw [Nat.zero_add] at this
        exact this
/-- a change, with what is kept of the states before -/
theorem step_mut (h : Two a f s) (hh : His H io im kn gs pa) {C : Option (Int32 × (Nat → Int32))} {M : Option (Int32 × Int32 × (Nat → Int32) × (Nat → Int32))} (hO : ∀ R, MX6_records kn s pa = some R → Opp kn s pa f R C M) : ∃ z w a' H', (MX0_note io im gs f).bind (fun v1 => C.bind fun v4 => (MX0_keepUnlessError io im v4.1).bind fun v7 => some (v7.1, v4.2, v7.2.1, v7.2.2, v1)) = some z ∧ M = some w ∧ z.1 = w.1 ∧ Two a' z.2.1 w.2.2.1 ∧ His H' z.2.2.1 z.2.2.2.1 w.2.1 z.2.2.2.2 w.2.2.2 := by
  obtain ⟨v1, R, io', im', e1, e2, e3, e4, e5, e6⟩ := hist_step h hh
  rw [e1, Option.bind_some]
  rcases hO R e2 with ⟨x, x1, x2, x3⟩ | ⟨n, a', g, g', n1, n2, n3, n4⟩
  · rw [x2, Option.bind_some, e4 x x1, Option.bind_some]
    exact ⟨_, _, a, H, rfl, x3, rfl, h, e5⟩
  · rw [n2, Option.bind_some, e3 (nI n) (nI_pos' n1), Option.bind_some]
    exact ⟨_, _, a', pushH H a, rfl, n3, rfl, n4, e6⟩
theorem sim_undo (h : Two a f s) (hh : His H io im kn gs pa) : ∃ z w a' H', MX5_undo f io im gs = some z ∧ MX6_undo kn s pa = some w ∧ z.1 = w.1 ∧ Two a' z.2.1 w.2.2 ∧ His H' io z.2.2 w.2.1 gs pa := by
  obtain ⟨h1, rfl, rfl, o, ho, rfl, hk⟩ := hh
  unfold MX5_undo MX0_bringBack MX6_undo
  by_cases q : H.length = 0
  · rw [q, if_pos (show nI 0 = (0 : Int32) from rfl), if_pos (show nI 0 = (0 : Int32) from rfl), Option.bind_some]
    exact ⟨_, _, a, H, rfl, rfl, rfl, h, h1, by rw [q], by rw [q], o, ho, rfl, hk⟩
  · have hlt : H.length - 1 < H.length := by omega
    obtain ⟨b, hb⟩ : ∃ b, H[H.length - 1]? = some b := ⟨_, List.getElem?_eq_getElem hlt⟩
    have hB := hk _ b hb
    rw [if_neg (nI_ne0 (by omega) (by omega)), if_neg (nI_ne0 (by omega) (by omega)), nI_m1 (by omega), state_at o _ (by omega) (by omega), Option.bind_some]
    obtain ⟨v, c1, c2⟩ := C_copy f (gs ((o + (H.length - 1)) % 5))
    obtain ⟨w, w1, w2, w3⟩ := M_copies (n0 := 2812) (n2 := 703) (o1 := 703 * (H.length - 1)) (o3 := 0) pa s (by decide) (by decide) (by omega) (by decide)
    rw [c1, Option.bind_some, Option.bind_some, ix703, show MX6_copies 2812 703 pa s (nI (703 * (H.length - 1))) 0 = some w from w1, Option.bind_some]
    refine ⟨_, _, b, H.take (H.length - 1), rfl, rfl, rfl, two_agree hB c2 (fun j hj => ?_), ?_, ?_, ?_, o, ho, rfl, fun k c hc => ?_⟩
    · have := w2 j hj
      rw [Nat.zero_add] at this
      exact this
    · rw [List.length_take]; omega
    · rw [List.length_take, Nat.min_eq_left (by omega)]
    · rw [List.length_take, Nat.min_eq_left (by omega)]
    · refine hk k c ?_
      rw [List.getElem?_take] at hc
      split at hc
      · exact hc
      · cases hc
end HIST
