theorem rN_C {a : Abs} {s : Nat → Int32} (h : RepN a s) (hn : aG a 0 ≤ 9) (hl : ∀ q, q < aG a 0 → (aM a q).length ≤ 16) {j : Nat} (x : Int32) (hj : 4 ≤ j) (hj2 : j < 10) : RepN (sC a j x) (upd s (j) (x)) := by
  obtain ⟨⟨h1, h2, h3, h4⟩, h5, h6, h8⟩ := h
  refine ⟨⟨?_, ?_, ?_, ?_⟩, fun i p q => ?_, fun r' hr' => ?_, fun r' k e hr' he => ?_⟩
  · rw [pk_un (by omega)]; exact h1
  · rw [pk_un (by omega)]; exact h2
  · rw [pk_un (by omega)]; exact h3
  · rw [pk_un (by omega)]; exact h4
  · by_cases z : i = j
    · subst z; rw [pk_us]; exact (aC_s _ _ _).symm
    · rw [pk_un (by omega)]; exact (h5 i p q).trans (aC_r _ _ z).symm
  · have hr' : r' < aG a 0 := hr'
    obtain ⟨g0, g1, g2, g3, g4⟩ := h6 r' hr'
    exact ⟨(by rw [pk_un (by omega)]; exact g0), (by rw [pk_un (by omega)]; exact g1), (by rw [pk_un (by omega)]; exact g2), (by rw [pk_un (by omega)]; exact g3), (by rw [pk_un (by omega)]; exact g4)⟩
  · have hr' : r' < aG a 0 := hr'
    have hk : k < (aM a r').length := (List.getElem?_eq_some_iff.mp he).1
    have hk2 := hl r' hr'
    obtain ⟨g0, g1, g2⟩ := h8 r' k e hr' he
    exact ⟨by rw [pk_un (by omega)]; exact g0, by rw [pk_un (by omega)]; exact g1, by rw [pk_un (by omega)]; exact g2⟩
theorem rN_cell {a : Abs} {s : Nat → Int32} (h : RepN a s) (hn : aG a 0 ≤ 9) (hl : ∀ q, q < aG a 0 → (aM a q).length ≤ 16) {r kk : Nat} (x : Int32) (hr : r < aG a 0) (hk5 : 5 ≤ kk) (hk29 : kk < 29) : RepN (a) (upd s (10 + 77 * r + kk) (x)) := by
  obtain ⟨⟨h1, h2, h3, h4⟩, h5, h6, h8⟩ := h
  refine ⟨⟨?_, ?_, ?_, ?_⟩, fun i p q => ?_, fun r' hr' => ?_, fun r' k e hr' he => ?_⟩
  · rw [pk_un (by omega)]; exact h1
  · rw [pk_un (by omega)]; exact h2
  · rw [pk_un (by omega)]; exact h3
  · rw [pk_un (by omega)]; exact h4
  · rw [pk_un (by omega)]; exact h5 i p q
  · have hr' : r' < aG a 0 := hr'
    obtain ⟨g0, g1, g2, g3, g4⟩ := h6 r' hr'
    exact ⟨(by rw [pk_un (by omega)]; exact g0), (by rw [pk_un (by omega)]; exact g1), (by rw [pk_un (by omega)]; exact g2), (by rw [pk_un (by omega)]; exact g3), (by rw [pk_un (by omega)]; exact g4)⟩
  · have hr' : r' < aG a 0 := hr'
    have hk : k < (aM a r').length := (List.getElem?_eq_some_iff.mp he).1
    have hk2 := hl r' hr'
    obtain ⟨g0, g1, g2⟩ := h8 r' k e hr' he
    rcases Nat.lt_trichotomy r' r with w | w | w
    · exact ⟨by rw [pk_un (by omega)]; exact g0, by rw [pk_un (by omega)]; exact g1, by rw [pk_un (by omega)]; exact g2⟩
    · exact ⟨by rw [pk_un (by omega)]; exact g0, by rw [pk_un (by omega)]; exact g1, by rw [pk_un (by omega)]; exact g2⟩
    · exact ⟨by rw [pk_un (by omega)]; exact g0, by rw [pk_un (by omega)]; exact g1, by rw [pk_un (by omega)]; exact g2⟩
theorem rN_pl {a : Abs} {s : Nat → Int32} (h : RepN a s) (hn : aG a 0 ≤ 9) (hl : ∀ q, q < aG a 0 → (aM a q).length ≤ 16) {r : Nat} (x : Nat) (hr : r < aG a 0) : RepN (sF a 0 r x) (upd s (10 + 77 * r + 0) (nI x)) := by
  obtain ⟨⟨h1, h2, h3, h4⟩, h5, h6, h8⟩ := h
  refine ⟨⟨?_, ?_, ?_, ?_⟩, fun i p q => ?_, fun r' hr' => ?_, fun r' k e hr' he => ?_⟩
  · rw [pk_un (by omega)]; exact h1
  · rw [pk_un (by omega)]; exact h2
  · rw [pk_un (by omega)]; exact h3
  · rw [pk_un (by omega)]; exact h4
  · rw [pk_un (by omega)]; exact h5 i p q
  · have hr' : r' < aG a 0 := hr'
    obtain ⟨g0, g1, g2, g3, g4⟩ := h6 r' hr'
    exact ⟨(by
      by_cases z : r' = r
      · subst z; rw [pk_us]; exact congrArg nI (aF_s _ _ _ _).symm
      · rw [pk_un (by omega)]; exact g0.trans (congrArg nI (aF_r _ _ _ z).symm)), (by rw [pk_un (by omega)]; exact g1.trans (congrArg nI (aF_o _ _ _ _ (by decide)).symm)), (by rw [pk_un (by omega)]; exact g2), (by rw [pk_un (by omega)]; exact g3), (by rw [pk_un (by omega)]; exact g4)⟩
  · have hr' : r' < aG a 0 := hr'
    have hk : k < (aM a r').length := (List.getElem?_eq_some_iff.mp he).1
    have hk2 := hl r' hr'
    obtain ⟨g0, g1, g2⟩ := h8 r' k e hr' he
    exact ⟨by rw [pk_un (by omega)]; exact g0, by rw [pk_un (by omega)]; exact g1, by rw [pk_un (by omega)]; exact g2⟩
theorem rN_lv {a : Abs} {s : Nat → Int32} (h : RepN a s) (hn : aG a 0 ≤ 9) (hl : ∀ q, q < aG a 0 → (aM a q).length ≤ 16) {r : Nat} (x : Nat) (hr : r < aG a 0) : RepN (sF a 1 r x) (upd s (10 + 77 * r + 1) (nI x)) := by
  obtain ⟨⟨h1, h2, h3, h4⟩, h5, h6, h8⟩ := h
  refine ⟨⟨?_, ?_, ?_, ?_⟩, fun i p q => ?_, fun r' hr' => ?_, fun r' k e hr' he => ?_⟩
  · rw [pk_un (by omega)]; exact h1
  · rw [pk_un (by omega)]; exact h2
  · rw [pk_un (by omega)]; exact h3
  · rw [pk_un (by omega)]; exact h4
  · rw [pk_un (by omega)]; exact h5 i p q
  · have hr' : r' < aG a 0 := hr'
    obtain ⟨g0, g1, g2, g3, g4⟩ := h6 r' hr'
    exact ⟨(by rw [pk_un (by omega)]; exact g0.trans (congrArg nI (aF_o _ _ _ _ (by decide)).symm)), (by
      by_cases z : r' = r
      · subst z; rw [pk_us]; exact congrArg nI (aF_s _ _ _ _).symm
      · rw [pk_un (by omega)]; exact g1.trans (congrArg nI (aF_r _ _ _ z).symm)), (by rw [pk_un (by omega)]; exact g2), (by rw [pk_un (by omega)]; exact g3), (by rw [pk_un (by omega)]; exact g4)⟩
  · have hr' : r' < aG a 0 := hr'
    have hk : k < (aM a r').length := (List.getElem?_eq_some_iff.mp he).1
    have hk2 := hl r' hr'
    obtain ⟨g0, g1, g2⟩ := h8 r' k e hr' he
    exact ⟨by rw [pk_un (by omega)]; exact g0, by rw [pk_un (by omega)]; exact g1, by rw [pk_un (by omega)]; exact g2⟩
theorem rN_tl {a : Abs} {s : Nat → Int32} (h : RepN a s) (hn : aG a 0 ≤ 9) (hl : ∀ q, q < aG a 0 → (aM a q).length ≤ 16) {r : Nat} (x : Int32) (hr : r < aG a 0) : RepN (sD a 2 r x) (upd s (10 + 77 * r + 2) (x)) := by
  obtain ⟨⟨h1, h2, h3, h4⟩, h5, h6, h8⟩ := h
  refine ⟨⟨?_, ?_, ?_, ?_⟩, fun i p q => ?_, fun r' hr' => ?_, fun r' k e hr' he => ?_⟩
  · rw [pk_un (by omega)]; exact h1
  · rw [pk_un (by omega)]; exact h2
  · rw [pk_un (by omega)]; exact h3
  · rw [pk_un (by omega)]; exact h4
  · rw [pk_un (by omega)]; exact h5 i p q
  · have hr' : r' < aG a 0 := hr'
    obtain ⟨g0, g1, g2, g3, g4⟩ := h6 r' hr'
    exact ⟨(by rw [pk_un (by omega)]; exact g0), (by rw [pk_un (by omega)]; exact g1), (by
      by_cases z : r' = r
      · subst z; rw [pk_us]; exact (aD_s _ _ _ _).symm
      · rw [pk_un (by omega)]; exact g2.trans ((aD_r _ _ _ z).symm)), (by rw [pk_un (by omega)]; exact g3.trans ((aD_o _ _ _ _ (by decide)).symm)), (by rw [pk_un (by omega)]; exact g4)⟩
  · have hr' : r' < aG a 0 := hr'
    have hk : k < (aM a r').length := (List.getElem?_eq_some_iff.mp he).1
    have hk2 := hl r' hr'
    obtain ⟨g0, g1, g2⟩ := h8 r' k e hr' he
    exact ⟨by rw [pk_un (by omega)]; exact g0, by rw [pk_un (by omega)]; exact g1, by rw [pk_un (by omega)]; exact g2⟩
theorem rN_cr {a : Abs} {s : Nat → Int32} (h : RepN a s) (hn : aG a 0 ≤ 9) (hl : ∀ q, q < aG a 0 → (aM a q).length ≤ 16) {r : Nat} (x : Int32) (hr : r < aG a 0) : RepN (sD a 3 r x) (upd s (10 + 77 * r + 3) (x)) := by
  obtain ⟨⟨h1, h2, h3, h4⟩, h5, h6, h8⟩ := h
  refine ⟨⟨?_, ?_, ?_, ?_⟩, fun i p q => ?_, fun r' hr' => ?_, fun r' k e hr' he => ?_⟩
  · rw [pk_un (by omega)]; exact h1
  · rw [pk_un (by omega)]; exact h2
  · rw [pk_un (by omega)]; exact h3
  · rw [pk_un (by omega)]; exact h4
  · rw [pk_un (by omega)]; exact h5 i p q
  · have hr' : r' < aG a 0 := hr'
    obtain ⟨g0, g1, g2, g3, g4⟩ := h6 r' hr'
    exact ⟨(by rw [pk_un (by omega)]; exact g0), (by rw [pk_un (by omega)]; exact g1), (by rw [pk_un (by omega)]; exact g2.trans ((aD_o _ _ _ _ (by decide)).symm)), (by
      by_cases z : r' = r
      · subst z; rw [pk_us]; exact (aD_s _ _ _ _).symm
      · rw [pk_un (by omega)]; exact g3.trans ((aD_r _ _ _ z).symm)), (by rw [pk_un (by omega)]; exact g4)⟩
  · have hr' : r' < aG a 0 := hr'
    have hk : k < (aM a r').length := (List.getElem?_eq_some_iff.mp he).1
    have hk2 := hl r' hr'
    obtain ⟨g0, g1, g2⟩ := h8 r' k e hr' he
    exact ⟨by rw [pk_un (by omega)]; exact g0, by rw [pk_un (by omega)]; exact g1, by rw [pk_un (by omega)]; exact g2⟩
theorem rN_day {a : Abs} {s : Nat → Int32} (h : RepN a s) (hn : aG a 0 ≤ 9) (hl : ∀ q, q < aG a 0 → (aM a q).length ≤ 16) (x : Nat) : RepN (sG a 1 x) (upd s (1) (nI x)) := by
  obtain ⟨⟨h1, h2, h3, h4⟩, h5, h6, h8⟩ := h
  refine ⟨⟨?_, ?_, ?_, ?_⟩, fun i p q => ?_, fun r' hr' => ?_, fun r' k e hr' he => ?_⟩
  · exact pk_us
  · rw [pk_un (by omega)]; exact h2
  · rw [pk_un (by omega)]; exact h3
  · rw [pk_un (by omega)]; exact h4
  · rw [pk_un (by omega)]; exact h5 i p q
  · have hr' : r' < aG a 0 := hr'
    obtain ⟨g0, g1, g2, g3, g4⟩ := h6 r' hr'
    exact ⟨(by rw [pk_un (by omega)]; exact g0), (by rw [pk_un (by omega)]; exact g1), (by rw [pk_un (by omega)]; exact g2), (by rw [pk_un (by omega)]; exact g3), (by rw [pk_un (by omega)]; exact g4)⟩
  · have hr' : r' < aG a 0 := hr'
    have hk : k < (aM a r').length := (List.getElem?_eq_some_iff.mp he).1
    have hk2 := hl r' hr'
    obtain ⟨g0, g1, g2⟩ := h8 r' k e hr' he
    exact ⟨by rw [pk_un (by omega)]; exact g0, by rw [pk_un (by omega)]; exact g1, by rw [pk_un (by omega)]; exact g2⟩
theorem rN_brs {a : Abs} {s : Nat → Int32} (h : RepN a s) (hn : aG a 0 ≤ 9) (hl : ∀ q, q < aG a 0 → (aM a q).length ≤ 16) (x : Nat) : RepN (sG a 2 x) (upd s (2) (nI x)) := by
  obtain ⟨⟨h1, h2, h3, h4⟩, h5, h6, h8⟩ := h
  refine ⟨⟨?_, ?_, ?_, ?_⟩, fun i p q => ?_, fun r' hr' => ?_, fun r' k e hr' he => ?_⟩
  · rw [pk_un (by omega)]; exact h1
  · rw [pk_un (by omega)]; exact h2
  · exact pk_us
  · rw [pk_un (by omega)]; exact h4
  · rw [pk_un (by omega)]; exact h5 i p q
  · have hr' : r' < aG a 0 := hr'
    obtain ⟨g0, g1, g2, g3, g4⟩ := h6 r' hr'
    exact ⟨(by rw [pk_un (by omega)]; exact g0), (by rw [pk_un (by omega)]; exact g1), (by rw [pk_un (by omega)]; exact g2), (by rw [pk_un (by omega)]; exact g3), (by rw [pk_un (by omega)]; exact g4)⟩
  · have hr' : r' < aG a 0 := hr'
    have hk : k < (aM a r').length := (List.getElem?_eq_some_iff.mp he).1
    have hk2 := hl r' hr'
    obtain ⟨g0, g1, g2⟩ := h8 r' k e hr' he
    exact ⟨by rw [pk_un (by omega)]; exact g0, by rw [pk_un (by omega)]; exact g1, by rw [pk_un (by omega)]; exact g2⟩
theorem rN_fds {a : Abs} {s : Nat → Int32} (h : RepN a s) (hn : aG a 0 ≤ 9) (hl : ∀ q, q < aG a 0 → (aM a q).length ≤ 16) (x : Nat) : RepN (sG a 3 x) (upd s (3) (nI x)) := by
  obtain ⟨⟨h1, h2, h3, h4⟩, h5, h6, h8⟩ := h
  refine ⟨⟨?_, ?_, ?_, ?_⟩, fun i p q => ?_, fun r' hr' => ?_, fun r' k e hr' he => ?_⟩
  · rw [pk_un (by omega)]; exact h1
  · rw [pk_un (by omega)]; exact h2
  · rw [pk_un (by omega)]; exact h3
  · exact pk_us
  · rw [pk_un (by omega)]; exact h5 i p q
  · have hr' : r' < aG a 0 := hr'
    obtain ⟨g0, g1, g2, g3, g4⟩ := h6 r' hr'
    exact ⟨(by rw [pk_un (by omega)]; exact g0), (by rw [pk_un (by omega)]; exact g1), (by rw [pk_un (by omega)]; exact g2), (by rw [pk_un (by omega)]; exact g3), (by rw [pk_un (by omega)]; exact g4)⟩
  · have hr' : r' < aG a 0 := hr'
    have hk : k < (aM a r').length := (List.getElem?_eq_some_iff.mp he).1
    have hk2 := hl r' hr'
    obtain ⟨g0, g1, g2⟩ := h8 r' k e hr' he
    exact ⟨by rw [pk_un (by omega)]; exact g0, by rw [pk_un (by omega)]; exact g1, by rw [pk_un (by omega)]; exact g2⟩
theorem rN_M {a : Abs} {s g : Nat → Int32} (h : RepN a s) (hn : aG a 0 ≤ 9) (hl : ∀ q, q < aG a 0 → (aM a q).length ≤ 16) {r : Nat} {L : List Ech} (hr : r < aG a 0) (ho : ∀ j, ¬ j = 10 + 77 * r + 4 → ¬ (10 + 77 * r + 29 ≤ j ∧ j < 10 + 77 * r + 77) → g j = s j) (h1 : g (10 + 77 * r + 4) = nI L.length) (h2 : ∀ k e, L[k]? = some e → g (10 + 77 * r + (29 + 3 * k + 0)) = nI e.1 ∧ g (10 + 77 * r + (29 + 3 * k + 1)) = nI e.2.1 ∧ g (10 + 77 * r + (29 + 3 * k + 2)) = nI e.2.2) : RepN (sM a r L) g := by
  obtain ⟨⟨e1, e2, e3, e4⟩, h5, h6, h8⟩ := h
  refine ⟨⟨?_, ?_, ?_, ?_⟩, fun i p q => ?_, fun r' hr' => ?_, fun r' k e hr' he => ?_⟩
  · rw [ho _ (by omega) (by omega)]; exact e1
  · rw [ho _ (by omega) (by omega)]; exact e2
  · rw [ho _ (by omega) (by omega)]; exact e3
  · rw [ho _ (by omega) (by omega)]; exact e4
  · rw [ho _ (by omega) (by omega)]; exact h5 i p q
  · have hr' : r' < aG a 0 := hr'
    obtain ⟨g0, g1, g2, g3, g4⟩ := h6 r' hr'
    refine ⟨(by rw [ho _ (by omega) (by omega)]; exact g0), (by rw [ho _ (by omega) (by omega)]; exact g1), (by rw [ho _ (by omega) (by omega)]; exact g2), (by rw [ho _ (by omega) (by omega)]; exact g3), ?_⟩
    by_cases z : r' = r
    · subst z
      rw [h1, aM_s]
    · rw [ho _ (by omega) (by omega), aM_r _ _ z]
      exact g4
  · have hr' : r' < aG a 0 := hr'
    by_cases z : r' = r
    · subst z
      rw [aM_s] at he
      exact h2 k e he
    · rw [aM_r _ _ z] at he
      have hk : k < (aM a r').length := (List.getElem?_eq_some_iff.mp he).1
      have := hl r' hr'
      obtain ⟨g0, g1, g2⟩ := h8 r' k e hr' he
      exact ⟨by rw [ho _ (by omega) (by omega)]; exact g0, by rw [ho _ (by omega) (by omega)]; exact g1, by rw [ho _ (by omega) (by omega)]; exact g2⟩
/-- the cells' words stay where only others are written -/
theorem rW_o {a a' : Abs} {s g : Nat → Int32} (h : RepW a s) (hn : aG a 0 ≤ 9) (hG : aG a' 0 = aG a 0) (hF : ∀ r, aF a' 1 r = aF a 1 r) (hV : aV a' = aV a) (hW : aW a' = aW a) (ho : ∀ r k, r < aG a 0 → 5 ≤ k → k < 29 → g (10 + 77 * r + k) = s (10 + 77 * r + k)) : RepW a' g := by
  intro r c hr hc
  rw [hG] at hr
  rw [hF, hV, hW, ho r _ hr (by omega) (by omega), ho r _ hr (by omega) (by omega), ho r _ hr (by omega) (by omega)]
  exact h r c hr hc
theorem RepN_congr {a a' : Abs} {f : Nat → Int32} (h : RepN a f) (hG : ∀ i, aG a' i = aG a i) (hC : ∀ i, aC a' i = aC a i) (hF : ∀ k r, aF a' k r = aF a k r) (hD : ∀ k r, aD a' k r = aD a k r) (hM : ∀ r, aM a' r = aM a r) : RepN a' f := by
  obtain ⟨⟨h1, h2, h3, h4⟩, h5, h6, h8⟩ := h
  refine ⟨⟨by rw [hG]; exact h1, by rw [hG]; exact h2, by rw [hG]; exact h3, by rw [hG]; exact h4⟩, fun i p q => by rw [hC]; exact h5 i p q, fun r hr => ?_, fun r k e hr he => ?_⟩
  · rw [hG] at hr
    rw [hF, hF, hD, hD, hM]
    exact h6 r hr
  · rw [hG] at hr
    rw [hM] at he
    exact h8 r k e hr he
section MOD2
variable {a : Abs} {s : Nat → Int32}
theorem M_cell (h : RepW a s) (hn : aG a 0 ≤ 9) {r c : Nat} (hr : r < aG a 0) (hc : c < 8) : MX6_of s (nI r) (5 + nI c) = some (if aF a 1 r = 1 then nI (aV a r c) else 0) := by
  rw [show (5 : Int32) = nI 5 from rfl, nI_add, M_of s (by omega) (by omega), (h r c hr hc).1]
theorem M_was (h : RepW a s) (hn : aG a 0 ≤ 9) {r c : Nat} (hr : r < aG a 0) (hc : c < 8) (hl : aF a 1 r = 0) : MX6_of s (nI r) (13 + nI c) = some (nI (aV a r c)) := by
  rw [show (13 : Int32) = nI 13 from rfl, nI_add, M_of s (by omega) (by omega), (h r c hr hc).2.1 hl]
theorem M_wrg (h : RepW a s) (hn : aG a 0 ≤ 9) {r c : Nat} (hr : r < aG a 0) (hc : c < 8) : MX6_of s (nI r) (21 + nI c) = some (aW a r c) := by
  rw [show (21 : Int32) = nI 21 from rfl, nI_add, M_of s (by omega) (by omega), (h r c hr hc).2.2]
theorem M_back (h : RepN a s) (hw : RepW a s) (hi : aInv a) {r : Nat} (hr : r < aG a 0) : MX6_back s (nI r) = some (nI (aBack a r)) := by
  have hn := hi.1.2
  unfold MX6_back
  have key : ∀ j : Int32, (∀ c, c < 8 → MX6_of s (nI r) (j + nI c) = some (nI (aV a r c))) → itr (SX6_back_20 s (nI r) j) FU (0, 0) = some (nI (aBack a r)) := by
    intro j hj
    refine itr_for (step := SX6_back_20 s (nI r) j) 8 (fun k => (nI (sm (fun c => b1 (decide (0 < aV a r c) && decide (aHv a r c = aV a r c))) k), nI k)) (nI (aBack a r)) (fun k hk => ?_) (by unfold SX6_back_20; dsimp only; rw [if_pos (by decide)]; rfl) FU (FU_lt (by decide))
    unfold SX6_back_20
    dsimp only
    have hV := inv_V hi hr hk
    have hH := hv_le hi r k
    rw [if_neg (show ¬ (8 : Int32) ≤ nI k from nI_ge (b := 8) hk (by decide)), hj k hk, Option.bind_some, M_heard h hi hr hk, Option.bind_some, Option.bind_some, nI_1, Int32.add_zero]
    show _ = some (Sum.inl (nI (sm _ k + b1 (decide (0 < aV a r k) && decide (aHv a r k = aV a r k))), nI (k + 1)))
    by_cases z : aV a r k = 0
    · rw [if_pos (by rw [z]; decide), z]; rfl
    · rw [if_neg (nI_nle (by omega) (by omega)), decide_eq_true (show 0 < aV a r k by omega), Bool.true_and]
      by_cases y : aHv a r k = aV a r k
      · rw [if_pos (by rw [y]), decide_eq_true y, nI_1]; rfl
      · rw [if_neg (fun w => y ((nI_eq (by omega) (by omega)).mp w)), decide_eq_false y]; rfl
  rcases M_lives_b h hi hr with ⟨e1, e2⟩ | ⟨e1, e2⟩
  · rw [e1, Option.bind_some, if_neg (by decide), Option.bind_some, key 5 (fun c hc => by rw [M_cell hw hn hr hc, if_pos e2]), Option.bind_some]
  · rw [e1, Option.bind_some, if_pos rfl, Option.bind_some, key 13 (fun c hc => M_was hw hn hr hc e2), Option.bind_some]
theorem M_wrongs (h : RepN a s) (hw : RepW a s) (hi : aInv a) {r : Nat} (hr : r < aG a 0) (hl : aF a 1 r = 0) : MX6_wrongs s (nI r) = some (nI (aWrongs a r)) := by
  have hn := hi.1.2
  unfold MX6_wrongs
  rw [show ((0 : Int32), (0 : Int32)) = (nI (sm (fun c => b1 (decide (0 < aHv a r c) && !decide (aHv a r c = aV a r c))) 0), nI 0) from rfl, itr_for (step := SX6_wrongs_4 s (nI r)) 8 (fun k => (nI (sm (fun c => b1 (decide (0 < aHv a r c) && !decide (aHv a r c = aV a r c))) k), nI k)) (nI (aWrongs a r)) (fun k hk => ?_) (by unfold SX6_wrongs_4; dsimp only; rw [if_pos (by decide)]; rfl) FU (FU_lt (by decide))]
  · rfl
  · unfold SX6_wrongs_4
    dsimp only
    have hV := inv_V hi hr hk
    have hH := hv_le hi r k
    rw [if_neg (show ¬ (8 : Int32) ≤ nI k from nI_ge (b := 8) hk (by decide)), M_heard h hi hr hk, Option.bind_some, Option.bind_some, M_was hw hn hr hk hl, Option.bind_some, nI_1, Int32.add_zero]
    show _ = some (Sum.inl (nI (sm _ k + b1 (decide (0 < aHv a r k) && !decide (aHv a r k = aV a r k))), nI (k + 1)))
    by_cases z : aHv a r k = 0
    · rw [if_pos (by rw [z]; decide), z]; rfl
    · rw [if_neg (nI_nle (by omega) (by omega)), decide_eq_true (show 0 < aHv a r k by omega), Bool.true_and]
      by_cases y : aHv a r k = aV a r k
      · rw [if_pos (by rw [y]), decide_eq_true y]; rfl
      · rw [if_neg (fun w => y ((nI_eq (by omega) (by omega)).mp w)), decide_eq_false y, nI_1]; rfl
end MOD2
