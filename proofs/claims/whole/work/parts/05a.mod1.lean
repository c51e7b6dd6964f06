/-! the reference: what it reads of a state -/
section MOD
variable {a : Abs} {s : Nat → Int32}
theorem ixM (r k : Nat) : ((10 : Int32) + 77 * nI r) + nI k = nI (10 + 77 * r + k) := by
  rw [show (10 : Int32) = nI 10 from rfl, show (77 : Int32) = nI 77 from rfl, pk_mul, nI_add, nI_add]
theorem ldM (s : Nat → Int32) {i : Nat} (h : i < 703) : ldA 703 s (nI i) = some (s i) := ldA_nI h (by decide)
theorem stM (s : Nat → Int32) {i : Nat} (x : Int32) (h : i < 703) : stA 703 s (nI i) x = some (upd s i x) := stA_nI x h (by decide)
theorem M_of (s : Nat → Int32) {r k : Nat} (hr : r < 9) (hk : k < 77) : MX6_of s (nI r) (nI k) = some (s (10 + 77 * r + k)) := by
  unfold MX6_of
  rw [ixM, ldM s (by omega)]
  rfl
theorem M_lays (s : Nat → Int32) {r k : Nat} (x : Int32) (hr : r < 9) (hk : k < 77) : MX6_lays s (nI r) (nI k) x = some (upd s (10 + 77 * r + k) x) := by
  unfold MX6_lays
  rw [ixM, stM s x (by omega)]
  rfl
theorem M_adds (s : Nat → Int32) {r k : Nat} (hr : r < 9) (hk : k < 77) : MX6_adds s (nI r) (nI k) = some (upd s (10 + 77 * r + k) (s (10 + 77 * r + k) + 1)) := by
  unfold MX6_adds
  rw [ixM, ldM s (by omega), Option.bind_some, stM s _ (by omega)]
  rfl
theorem M_n (h : RepN a s) : ldA 703 s 0 = some (nI (aG a 0)) := by rw [show (0 : Int32) = nI 0 from rfl, ldM s (by decide), h.1.2.1]
theorem M_day (h : RepN a s) : ldA 703 s 1 = some (nI (aG a 1)) := by rw [show (1 : Int32) = nI 1 from rfl, ldM s (by decide), h.1.1]
theorem M_brs (h : RepN a s) : ldA 703 s 2 = some (nI (aG a 2)) := by rw [show (2 : Int32) = nI 2 from rfl, ldM s (by decide), h.1.2.2.1]
theorem M_fds (h : RepN a s) : ldA 703 s 3 = some (nI (aG a 3)) := by rw [show (3 : Int32) = nI 3 from rfl, ldM s (by decide), h.1.2.2.2]
theorem M_pl (h : RepN a s) (hi : aInv a) {r : Nat} (hr : r < aG a 0) : MX6_of s (nI r) 0 = some (nI (aF a 0 r)) := by
  have := hi.1.2
  rw [show (0 : Int32) = nI 0 from rfl, M_of s (by omega) (by decide), (h.2.2.1 r hr).1]
theorem M_ec (h : RepN a s) (hi : aInv a) {r : Nat} (hr : r < aG a 0) : MX6_of s (nI r) 4 = some (nI (aM a r).length) := by
  have := hi.1.2
  rw [show (4 : Int32) = nI 4 from rfl, M_of s (by omega) (by decide), (h.2.2.1 r hr).2.2.2.2]
theorem M_lives (h : RepN a s) (hi : aInv a) {r : Nat} (hr : r < aG a 0) : MX6_lives s (nI r) = some (if aF a 1 r = 1 then 1 else 0) := by
  have h9 := hi.1.2
  unfold MX6_lives
  rw [show MX6_of s (nI r) 1 = some (s (10 + 77 * r + 1)) from M_of s (k := 1) (by omega) (by decide), Option.bind_some, (h.2.2.1 r hr).2.1]
  have h1 := (hi.2.2.2.2.1 r hr).2.2.2.2.1
  rcases (show aF a 1 r = 0 ∨ aF a 1 r = 1 by omega) with q | q
  · rw [q]; rfl
  · rw [q]; rfl
theorem M_lives_b (h : RepN a s) (hi : aInv a) {b : Nat} (hb : b < aG a 0) : (MX6_lives s (nI b) = some 1 ∧ aF a 1 b = 1) ∨ (MX6_lives s (nI b) = some 0 ∧ aF a 1 b = 0) := by
  have h1 := (hi.2.2.2.2.1 b hb).2.2.2.2.1
  rw [M_lives h hi hb]
  rcases (show aF a 1 b = 0 ∨ aF a 1 b = 1 by omega) with q | q
  · exact Or.inr ⟨by rw [q]; rfl, q⟩
  · exact Or.inl ⟨by rw [q]; rfl, q⟩
theorem M_rowAt (h : RepN a s) (hi : aInv a) {p : Nat} (hp : p < aG a 0) : MX6_rowAt s (nI p) = some (nI (aF a 2 p)) := by
  have h9 := hi.1
  unfold MX6_rowAt
  obtain ⟨r, hr, q⟩ := itr_gen (step := SX6_rowAt_5 s (nI p)) (aG a 0)
    (fun k x => x.2 = nI k ∧ (aF a 2 p < k → x.1 = nI (aF a 2 p)))
    (fun r => r = nI (aF a 2 p)) (by
      rintro k ⟨x, y⟩ hk ⟨q1, q2⟩
      dsimp only at q1 q2
      subst q1
      unfold SX6_rowAt_5
      dsimp only
      rw [M_n h, Option.bind_some]
      rcases Nat.lt_or_ge k (aG a 0) with z | z
      · left
        refine ⟨z, ?_⟩
        have hk0 := (hi.2.2.2.2.1 k z)
        rw [if_neg (nI_ge z (by omega)), M_pl h hi z, Option.bind_some]
        by_cases y : aF a 0 k = p
        · rw [if_pos (by rw [y])]
          refine ⟨_, rfl, nI_1 k, fun _ => ?_⟩
          dsimp only
          rw [← y, hk0.2.2.1]
        · rw [if_neg (fun w => y ((nI_eq (by omega) (by omega)).mp w))]
          refine ⟨_, rfl, nI_1 k, fun w => q2 ?_⟩
          have hne : aF a 2 p ≠ k := fun v => y (by rw [← v]; exact (hi.2.2.2.2.1 p hp).2.2.2.1)
          omega
      · right
        have : k = aG a 0 := by omega
        subst this
        rw [if_pos (nI_le (Nat.le_refl _) (by omega))]
        exact ⟨_, rfl, q2 (inv_at hi hp)⟩) FU (-1000004, 0) (FU_lt (by omega)) ⟨rfl, fun w => absurd w (Nat.not_lt_zero _)⟩
  rw [hr, Option.bind_some, q]
theorem rmA_nI {x y : Nat} (hx : x < 2 ^ 31) (h0 : 0 < y) (hy : y < 2 ^ 31) : rmA (nI x) (nI y) = some (nI (x % y)) := by
  unfold rmA
  rw [if_neg (nI_ne0 h0 hy), pk_rem hx h0 hy]
theorem M_up (h : RepN a s) (hi : aInv a) {r : Nat} (hr : r < aG a 0) : MX6_upper s (nI r) = some (nI (aUp a r)) := by
  have h9 := hi.1
  have h2 := (hi.2.2.2.2.1 r hr).1
  unfold MX6_upper
  rw [M_pl h hi hr, Option.bind_some, M_n h, Option.bind_some, Option.bind_some, nI_add, nI_m1 (by omega), rmA_nI (by omega) (by omega) (by omega), Option.bind_some, M_rowAt h hi (Nat.mod_lt _ (by omega)), Option.bind_some]
  rfl
theorem M_lo (h : RepN a s) (hi : aInv a) {r : Nat} (hr : r < aG a 0) : MX6_lower s (nI r) = some (nI (aLo a r)) := by
  have h9 := hi.1
  have h2 := (hi.2.2.2.2.1 r hr).1
  unfold MX6_lower
  rw [M_pl h hi hr, Option.bind_some, M_n h, Option.bind_some, nI_1, rmA_nI (by omega) (by omega) (by omega), Option.bind_some, M_rowAt h hi (Nat.mod_lt _ (by omega)), Option.bind_some]
  rfl
theorem M_par {c : Nat} (hc : c < 8) : (nI c - nI c / 2 * 2 = 0) ↔ c % 2 = 0 := by
  revert c
  decide
theorem M_hold (h : RepN a s) (hi : aInv a) {r c : Nat} (hr : r < aG a 0) (hc : c < 8) : MX6_bearer s (nI r) (nI c) = some (nI (aHold a r c)) := by
  unfold MX6_bearer aHold
  by_cases q : c % 2 = 0
  · rw [if_pos ((M_par hc).mpr q), if_pos q, M_up h hi hr]
    rfl
  · rw [if_neg (fun w => q ((M_par hc).mp w)), if_neg q, M_lo h hi hr]
    rfl
theorem ix3 (k j : Nat) : ((29 : Int32) + 3 * nI k) + nI j = nI (29 + 3 * k + j) := by
  rw [show (29 : Int32) = nI 29 from rfl, show (3 : Int32) = nI 3 from rfl, pk_mul, nI_add, nI_add]
theorem M_echo0 (s : Nat → Int32) {r k j : Nat} (hr : r < 9) (hk : k < 16) (hj : j < 3) : MX6_echo s (nI r) (nI k) (nI j) = some (s (10 + 77 * r + (29 + 3 * k + j))) := by
  unfold MX6_echo
  rw [ix3, M_of s hr (by omega)]
  rfl
theorem M_echo (h : RepN a s) (hi : aInv a) {r k : Nat} {e : Ech} (hr : r < aG a 0) (he : (aM a r)[k]? = some e) : MX6_echo s (nI r) (nI k) 0 = some (nI e.1) ∧ MX6_echo s (nI r) (nI k) 1 = some (nI e.2.1) ∧ MX6_echo s (nI r) (nI k) 2 = some (nI e.2.2) := by
  have h1 := hi.1.2
  have h2 := inv_len hi hr
  have h3 : k < (aM a r).length := (List.getElem?_eq_some_iff.mp he).1
  obtain ⟨g1, g2, g3⟩ := h.2.2.2 r k e hr he
  exact ⟨by rw [show (0 : Int32) = nI 0 from rfl, M_echo0 s (by omega) (by omega) (by decide), g1], by rw [show (1 : Int32) = nI 1 from rfl, M_echo0 s (by omega) (by omega) (by decide), g2], by rw [show (2 : Int32) = nI 2 from rfl, M_echo0 s (by omega) (by omega) (by decide), g3]⟩
theorem M_age (h : RepN a s) (hi : aInv a) {r k : Nat} {e : Ech} (hr : r < aG a 0) (he : (aM a r)[k]? = some e) : MX6_age s (nI r) (nI k) = some (nI (aG a 1 - e.2.2)) := by
  unfold MX6_age
  rw [M_day h, Option.bind_some, (M_echo h hi hr he).2.2, Option.bind_some, pk_sub (inv_ok hi hr (List.mem_of_getElem? he)).2]
theorem M_faded (h : RepN a s) (hi : aInv a) {r k : Nat} {e : Ech} (hr : r < aG a 0) (he : (aM a r)[k]? = some e) : MX6_isFaded s (nI r) (nI k) = some (if aOld a e = true then 1 else 0) := by
  have h1 := hi.2.1
  have h2 := hi.2.2.2.1.2
  unfold MX6_isFaded
  rw [M_age h hi hr he, Option.bind_some, M_fds h, Option.bind_some]
  unfold aOld
  by_cases q : aG a 3 < aG a 1 - e.2.2
  · rw [if_neg (nI_ge q (by omega)), decide_eq_true q]; rfl
  · rw [if_pos (nI_le (by omega) (by omega)), decide_eq_false q]; rfl
theorem ix8 (r c : Nat) : ((8 : Int32) * nI r) + nI c = nI (8 * r + c) := by
  rw [show (8 : Int32) = nI 8 from rfl, pk_mul, nI_add]
theorem nf_neg : ((-1000004 : Int32) < 0) := by decide
theorem M_rank (h : RepN a s) (hi : aInv a) {b o : Nat} (hb : b < aG a 0) {r c : Nat} (ho : o = 8 * r + c) (hr : r < 9) (hc : c < 8) : (∃ k e, (aM a b)[k]? = some e ∧ e.1 = o ∧ MX6_rankOf s (nI b) (nI r) (nI c) = some (nI k)) ∨ ((∀ e, e ∈ aM a b → ¬ e.1 = o) ∧ MX6_rankOf s (nI b) (nI r) (nI c) = some (-1000004)) := by
  have hl := inv_len hi hb
  subst ho
  unfold MX6_rankOf
  obtain ⟨x, hx, q⟩ := itr_gen (step := SX6_rankOf_7 s (nI b) (nI r) (nI c)) (aM a b).length
    (fun k y => y.2 = nI k ∧ ((∃ j e, j < k ∧ (aM a b)[j]? = some e ∧ e.1 = 8 * r + c ∧ y.1 = nI j) ∨ ((∀ j e, j < k → (aM a b)[j]? = some e → ¬ e.1 = 8 * r + c) ∧ y.1 = -1000004)))
    (fun x => (∃ j e, (aM a b)[j]? = some e ∧ e.1 = 8 * r + c ∧ x = nI j) ∨ ((∀ e, e ∈ aM a b → ¬ e.1 = 8 * r + c) ∧ x = -1000004)) (by
      rintro k ⟨x, y⟩ hk ⟨q1, q2⟩
      dsimp only at q1 q2
      subst q1
      unfold SX6_rankOf_7
      dsimp only
      rw [M_ec h hi hb, Option.bind_some]
      rcases Nat.lt_or_ge k (aM a b).length with z | z
      · left
        refine ⟨z, ?_⟩
        obtain ⟨e, he⟩ : ∃ e, (aM a b)[k]? = some e := ⟨_, List.getElem?_eq_getElem z⟩
        have hok := (inv_ok hi hb (List.mem_of_getElem? he)).1.1
        rw [if_neg (nI_ge z (by omega)), (M_echo h hi hb he).1, Option.bind_some, ix8]
        by_cases w : e.1 = 8 * r + c
        · rw [if_pos (by rw [w])]
          exact ⟨_, rfl, nI_1 k, Or.inl ⟨k, e, Nat.lt_succ_self k, he, w, rfl⟩⟩
        · rw [if_neg (fun v => w ((nI_eq (by omega) (by omega)).mp v))]
          refine ⟨_, rfl, nI_1 k, ?_⟩
          rcases q2 with ⟨j, e', g1, g2, g3, g4⟩ | ⟨g1, g2⟩
          · exact Or.inl ⟨j, e', by omega, g2, g3, g4⟩
          · refine Or.inr ⟨fun j e' g3 g4 => ?_, g2⟩
            rcases Nat.lt_or_ge j k with v | v
            · exact g1 j e' v g4
            · have : j = k := by omega
              subst this
              rw [he] at g4
              obtain rfl := Option.some.inj g4
              exact w
      · right
        have : k = (aM a b).length := by omega
        subst this
        rw [if_pos (nI_le (Nat.le_refl _) (by omega))]
        refine ⟨_, rfl, ?_⟩
        rcases q2 with ⟨j, e', g1, g2, g3, g4⟩ | ⟨g1, g2⟩
        · exact Or.inl ⟨j, e', g2, g3, g4⟩
        · refine Or.inr ⟨fun e' g3 => ?_, g2⟩
          obtain ⟨j, hj⟩ := List.getElem?_of_mem g3
          exact g1 j e' (List.getElem?_eq_some_iff.mp hj).1 hj) FU (-1000004, 0) (FU_lt (by omega)) ⟨rfl, Or.inr ⟨fun j e w => absurd w (Nat.not_lt_zero _), rfl⟩⟩
  rw [hx, Option.bind_some]
  rcases q with ⟨j, e, g1, g2, g3⟩ | ⟨g1, g2⟩
  · exact Or.inl ⟨j, e, g1, g2, by rw [g3]⟩
  · exact Or.inr ⟨g1, by rw [g2]⟩
theorem find_at {L : List Ech} (hn : (L.map (fun e => e.1)).Nodup) {k : Nat} {e : Ech} (he : L[k]? = some e) : aFind L e.1 = some e := by
  unfold aFind
  induction L generalizing k with
  | nil => cases he
  | cons x L ih =>
    rw [List.map_cons, List.nodup_cons] at hn
    rw [List.find?_cons]
    cases k with
    | zero =>
      obtain rfl := Option.some.inj he
      rw [decide_eq_true rfl]
    | succ k =>
      have he' : L[k]? = some e := he
      have : ¬ x.1 = e.1 := fun q => hn.1 (by rw [q]; exact List.mem_map.mpr ⟨e, List.mem_of_getElem? he', rfl⟩)
      rw [decide_eq_false this]
      exact ih hn.2 he'
theorem find_none {L : List Ech} {o : Nat} (h : ∀ e, e ∈ L → ¬ e.1 = o) : aFind L o = none := by
  unfold aFind
  rw [List.find?_eq_none]
  intro e he
  simp [h e he]
/-- the fresh echo of a cell, by its place -/
theorem M_told (h : RepN a s) (hi : aInv a) {r c : Nat} (hr : r < aG a 0) (hc : c < 8) : (∃ k e, (aM a (aHold a r c))[k]? = some e ∧ aHeard a r c = some e ∧ MX6_told s (nI r) (nI c) = some (nI k)) ∨ (aHeard a r c = none ∧ MX6_told s (nI r) (nI c) = some (-1000004)) := by
  have h9 := hi.1.2
  have hb := inv_hold hi r c
  have hnd := hi.2.2.2.2.2.2.2 _ hb
  unfold MX6_told
  rw [M_hold h hi hr hc, Option.bind_some]
  rcases M_lives_b h hi hb with ⟨e1, e2⟩ | ⟨e1, e2⟩
  · rw [e1, Option.bind_some, if_neg (by decide)]
    rcases M_rank h hi (o := 8 * r + c) hb rfl (by omega) hc with ⟨k, e, g1, g2, g3⟩ | ⟨g1, g2⟩
    · have hk : k < (aM a (aHold a r c)).length := (List.getElem?_eq_some_iff.mp g1).1
      have hl := inv_len hi hb
      have hf : aFind (aM a (aHold a r c)) (8 * r + c) = some e := by rw [← g2]; exact find_at hnd g1
      rw [g3, Option.bind_some, Option.bind_some, if_neg (nI_pos (by omega)), M_faded h hi hb g1, Option.bind_some]
      by_cases q : aOld a e = true
      · right
        rw [if_pos q]
        refine ⟨?_, rfl⟩
        unfold aHeard
        rw [hf]
        simp [Option.filter, q]
      · left
        rw [if_neg q]
        refine ⟨k, e, g1, ?_, rfl⟩
        unfold aHeard
        rw [hf]
        simp [Option.filter, q]
    · right
      rw [g2, Option.bind_some, Option.bind_some, if_pos nf_neg]
      refine ⟨?_, rfl⟩
      unfold aHeard
      rw [find_none g1]
      rfl
  · right
    rw [e1, Option.bind_some, if_pos rfl, Option.bind_some, if_pos nf_neg]
    refine ⟨?_, rfl⟩
    unfold aHeard
    rw [(hi.2.2.2.2.1 _ hb).2.2.2.2.2.2 e2]
    rfl
theorem M_heard (h : RepN a s) (hi : aInv a) {r c : Nat} (hr : r < aG a 0) (hc : c < 8) : MX6_heard s (nI r) (nI c) = some (nI (aHv a r c)) := by
  unfold MX6_heard aHv
  have hb := inv_hold hi r c
  rcases M_told h hi hr hc with ⟨k, e, g1, g2, g3⟩ | ⟨g1, g2⟩
  · have hk : k < (aM a (aHold a r c)).length := (List.getElem?_eq_some_iff.mp g1).1
    have hl := inv_len hi hb
    rw [g3, Option.bind_some, if_pos (nI_pos' (by omega)), M_hold h hi hr hc, Option.bind_some, (M_echo h hi hb g1).2.1, Option.bind_some, g2]
    show some (nI 1 + nI e.2.1) = some (nI (e.2.1 + 1))
    rw [nI_add, Nat.add_comm]
  · rw [g2, Option.bind_some, if_neg (by decide), g1]
    rfl
theorem M_heardAge (h : RepN a s) (hi : aInv a) {r c : Nat} (hr : r < aG a 0) (hc : c < 8) : MX6_heardAge s (nI r) (nI c) = some (match aHeard a r c with
    | some e => nI (aG a 1 - e.2.2)
    | none => -1000004) := by
  unfold MX6_heardAge
  have hb := inv_hold hi r c
  rcases M_told h hi hr hc with ⟨k, e, g1, g2, g3⟩ | ⟨g1, g2⟩
  · have hk : k < (aM a (aHold a r c)).length := (List.getElem?_eq_some_iff.mp g1).1
    have hl := inv_len hi hb
    rw [g3, Option.bind_some, if_pos (nI_pos' (by omega)), M_hold h hi hr hc, Option.bind_some, M_age h hi hb g1, Option.bind_some, g2]
  · rw [g2, Option.bind_some, if_neg (by decide), g1]
end MOD
