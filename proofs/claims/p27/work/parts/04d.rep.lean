theorem aF_s (a : Abs) (i r x : Nat) : aF (sF a i r x) i r = x := up2_s _ _ _ _
theorem aF_r (a : Abs) (i : Nat) {r q : Nat} (x : Nat) (h : ¬ q = r) : aF (sF a i r x) i q = aF a i q := up2_n _ _ (fun y => h y.2)
theorem aF_o (a : Abs) {i j : Nat} (r q x : Nat) (h : ¬ j = i) : aF (sF a i r x) j q = aF a j q := up2_n _ _ (fun y => h y.1)
theorem aD_s (a : Abs) (i r : Nat) (x : Int32) : aD (sD a i r x) i r = x := up2_s _ _ _ _
theorem aD_r (a : Abs) (i : Nat) {r q : Nat} (x : Int32) (h : ¬ q = r) : aD (sD a i r x) i q = aD a i q := up2_n _ _ (fun y => h y.2)
theorem aD_o (a : Abs) {i j : Nat} (r q : Nat) (x : Int32) (h : ¬ j = i) : aD (sD a i r x) j q = aD a j q := up2_n _ _ (fun y => h y.1)
theorem aM_s (a : Abs) (r : Nat) (L : List Ech) : aM (sM a r L) r = L := up1_s _ _ _
theorem aM_r (a : Abs) {r q : Nat} (L : List Ech) (h : ¬ q = r) : aM (sM a r L) q = aM a q := up1_n _ _ h
theorem aC_s (a : Abs) (i : Nat) (x : Int32) : aC (sC a i x) i = x := up1_s _ _ _
theorem aC_r (a : Abs) {i j : Nat} (x : Int32) (h : ¬ j = i) : aC (sC a i x) j = aC a j := up1_n _ _ h
theorem aG_s (a : Abs) (i x : Nat) : aG (sG a i x) i = x := up1_s _ _ _
theorem aG_r (a : Abs) {i j : Nat} (x : Nat) (h : ¬ j = i) : aG (sG a i x) j = aG a j := up1_n _ _ h
theorem aV_s (a : Abs) (r c x : Nat) : aV (sV a r c x) r c = x := up2_s _ _ _ _
theorem aV_r (a : Abs) {r c p q : Nat} (x : Nat) (h : ¬ (p = r ∧ q = c)) : aV (sV a r c x) p q = aV a p q := up2_n _ _ h
theorem aW_s (a : Abs) (r c : Nat) (x : Int32) : aW (sW a r c x) r c = x := up2_s _ _ _ _
theorem aW_r (a : Abs) {r c p q : Nat} (x : Int32) (h : ¬ (p = r ∧ q = c)) : aW (sW a r c x) p q = aW a p q := up2_n _ _ h
theorem rC_V {a : Abs} {f : Nat → Int32} (h : RepC a f) (hn : aG a 0 ≤ 9) {r c : Nat} (v : Nat) (hr : r < aG a 0) (hc : c < 8) : RepC (sV a r c v) (upd f (64 + r * 8 + c) (nI v - 1)) := by
  obtain ⟨⟨h1, h2, h3, h4⟩, h5, h6, h7, h8⟩ := h
  refine ⟨⟨?_, ?_, ?_, ?_⟩, fun i p q => ?_, fun r' hr' => ?_, fun r' c' hr' hc' => ?_, fun r' k e hr' he => ?_⟩
  · rw [pk_un (by omega)]; exact h1
  · rw [pk_un (by omega)]; exact h2
  · rw [pk_un (by omega)]; exact h3
  · rw [pk_un (by omega)]; exact h4
  · rw [pk_un (by omega)]; exact h5 i p q
  · have hr' : r' < aG a 0 := hr'
    obtain ⟨g0, g1, g2, g3, g4, g5⟩ := h6 r' hr'
    exact ⟨(by rw [pk_un (by omega)]; exact g0), (by rw [pk_un (by omega)]; exact g1), (by rw [pk_un (by omega)]; exact g2), (by rw [pk_un (by omega)]; exact g3), (by rw [pk_un (by omega)]; exact g4), (by rw [pk_un (by omega)]; exact g5)⟩
  · have hr' : r' < aG a 0 := hr'
    obtain ⟨g0, g1⟩ := h7 r' c' hr' hc'
    exact ⟨(by
      by_cases z : r' = r ∧ c' = c
      · obtain ⟨rfl, rfl⟩ := z; rw [pk_us]; exact congrArg (fun t => nI t - 1) (up2_s _ _ _ _).symm
      · rw [pk_un (by omega)]; exact g0.trans (congrArg (fun t => nI t - 1) (up2_n _ _ z).symm)), (by rw [pk_un (by omega)]; exact g1)⟩
  · have hr' : r' < aG a 0 := hr'
    rw [pk_un (by omega)]; exact h8 r' k e hr' he
theorem rC_W {a : Abs} {f : Nat → Int32} (h : RepC a f) (hn : aG a 0 ≤ 9) {r c : Nat} (x : Int32) (hr : r < aG a 0) (hc : c < 8) : RepC (sW a r c x) (upd f (136 + r * 8 + c) (x)) := by
  obtain ⟨⟨h1, h2, h3, h4⟩, h5, h6, h7, h8⟩ := h
  refine ⟨⟨?_, ?_, ?_, ?_⟩, fun i p q => ?_, fun r' hr' => ?_, fun r' c' hr' hc' => ?_, fun r' k e hr' he => ?_⟩
  · rw [pk_un (by omega)]; exact h1
  · rw [pk_un (by omega)]; exact h2
  · rw [pk_un (by omega)]; exact h3
  · rw [pk_un (by omega)]; exact h4
  · rw [pk_un (by omega)]; exact h5 i p q
  · have hr' : r' < aG a 0 := hr'
    obtain ⟨g0, g1, g2, g3, g4, g5⟩ := h6 r' hr'
    exact ⟨(by rw [pk_un (by omega)]; exact g0), (by rw [pk_un (by omega)]; exact g1), (by rw [pk_un (by omega)]; exact g2), (by rw [pk_un (by omega)]; exact g3), (by rw [pk_un (by omega)]; exact g4), (by rw [pk_un (by omega)]; exact g5)⟩
  · have hr' : r' < aG a 0 := hr'
    obtain ⟨g0, g1⟩ := h7 r' c' hr' hc'
    exact ⟨(by rw [pk_un (by omega)]; exact g0), (by
      by_cases z : r' = r ∧ c' = c
      · obtain ⟨rfl, rfl⟩ := z; rw [pk_us]; exact (up2_s _ _ _ _).symm
      · rw [pk_un (by omega)]; exact g1.trans (up2_n _ _ z).symm)⟩
  · have hr' : r' < aG a 0 := hr'
    rw [pk_un (by omega)]; exact h8 r' k e hr' he
theorem rC_C {a : Abs} {f : Nat → Int32} (h : RepC a f) (hn : aG a 0 ≤ 9) {j : Nat} (x : Int32) (hj : 4 ≤ j) (hj2 : j < 10) : RepC (sC a j x) (upd f (j) (x)) := by
  obtain ⟨⟨h1, h2, h3, h4⟩, h5, h6, h7, h8⟩ := h
  refine ⟨⟨?_, ?_, ?_, ?_⟩, fun i p q => ?_, fun r' hr' => ?_, fun r' c' hr' hc' => ?_, fun r' k e hr' he => ?_⟩
  · rw [pk_un (by omega)]; exact h1
  · rw [pk_un (by omega)]; exact h2
  · rw [pk_un (by omega)]; exact h3
  · rw [pk_un (by omega)]; exact h4
  · by_cases z : i = j
    · subst z; rw [pk_us]; exact (up1_s _ _ _).symm
    · rw [pk_un (by omega)]; exact (h5 i p q).trans (up1_n _ _ z).symm
  · have hr' : r' < aG a 0 := hr'
    obtain ⟨g0, g1, g2, g3, g4, g5⟩ := h6 r' hr'
    exact ⟨(by rw [pk_un (by omega)]; exact g0), (by rw [pk_un (by omega)]; exact g1), (by rw [pk_un (by omega)]; exact g2), (by rw [pk_un (by omega)]; exact g3), (by rw [pk_un (by omega)]; exact g4), (by rw [pk_un (by omega)]; exact g5)⟩
  · have hr' : r' < aG a 0 := hr'
    obtain ⟨g0, g1⟩ := h7 r' c' hr' hc'
    exact ⟨(by rw [pk_un (by omega)]; exact g0), (by rw [pk_un (by omega)]; exact g1)⟩
  · have hr' : r' < aG a 0 := hr'
    rw [pk_un (by omega)]; exact h8 r' k e hr' he
theorem rC_pl {a : Abs} {f : Nat → Int32} (h : RepC a f) (hn : aG a 0 ≤ 9) {r : Nat} (x : Nat) (hr : r < aG a 0) : RepC (sF a 0 r x) (upd f (10 + r) (nI x)) := by
  obtain ⟨⟨h1, h2, h3, h4⟩, h5, h6, h7, h8⟩ := h
  refine ⟨⟨?_, ?_, ?_, ?_⟩, fun i p q => ?_, fun r' hr' => ?_, fun r' c' hr' hc' => ?_, fun r' k e hr' he => ?_⟩
  · rw [pk_un (by omega)]; exact h1
  · rw [pk_un (by omega)]; exact h2
  · rw [pk_un (by omega)]; exact h3
  · rw [pk_un (by omega)]; exact h4
  · rw [pk_un (by omega)]; exact h5 i p q
  · have hr' : r' < aG a 0 := hr'
    obtain ⟨g0, g1, g2, g3, g4, g5⟩ := h6 r' hr'
    exact ⟨(by
      by_cases z : r' = r
      · subst z; rw [pk_us]; exact congrArg nI (aF_s _ _ _ _).symm
      · rw [pk_un (by omega)]; exact g0.trans (congrArg nI (aF_r _ _ _ z).symm)), (by rw [pk_un (by omega)]; exact g1.trans (congrArg nI (aF_o _ _ _ _ (by decide)).symm)), (by rw [pk_un (by omega)]; exact g2.trans (congrArg nI (aF_o _ _ _ _ (by decide)).symm)), (by rw [pk_un (by omega)]; exact g3), (by rw [pk_un (by omega)]; exact g4), (by rw [pk_un (by omega)]; exact g5)⟩
  · have hr' : r' < aG a 0 := hr'
    obtain ⟨g0, g1⟩ := h7 r' c' hr' hc'
    exact ⟨(by rw [pk_un (by omega)]; exact g0), (by rw [pk_un (by omega)]; exact g1)⟩
  · have hr' : r' < aG a 0 := hr'
    rw [pk_un (by omega)]; exact h8 r' k e hr' he
theorem rC_at {a : Abs} {f : Nat → Int32} (h : RepC a f) (hn : aG a 0 ≤ 9) {r : Nat} (x : Nat) (hr : r < aG a 0) : RepC (sF a 2 r x) (upd f (19 + r) (nI x)) := by
  obtain ⟨⟨h1, h2, h3, h4⟩, h5, h6, h7, h8⟩ := h
  refine ⟨⟨?_, ?_, ?_, ?_⟩, fun i p q => ?_, fun r' hr' => ?_, fun r' c' hr' hc' => ?_, fun r' k e hr' he => ?_⟩
  · rw [pk_un (by omega)]; exact h1
  · rw [pk_un (by omega)]; exact h2
  · rw [pk_un (by omega)]; exact h3
  · rw [pk_un (by omega)]; exact h4
  · rw [pk_un (by omega)]; exact h5 i p q
  · have hr' : r' < aG a 0 := hr'
    obtain ⟨g0, g1, g2, g3, g4, g5⟩ := h6 r' hr'
    exact ⟨(by rw [pk_un (by omega)]; exact g0.trans (congrArg nI (aF_o _ _ _ _ (by decide)).symm)), (by
      by_cases z : r' = r
      · subst z; rw [pk_us]; exact congrArg nI (aF_s _ _ _ _).symm
      · rw [pk_un (by omega)]; exact g1.trans (congrArg nI (aF_r _ _ _ z).symm)), (by rw [pk_un (by omega)]; exact g2.trans (congrArg nI (aF_o _ _ _ _ (by decide)).symm)), (by rw [pk_un (by omega)]; exact g3), (by rw [pk_un (by omega)]; exact g4), (by rw [pk_un (by omega)]; exact g5)⟩
  · have hr' : r' < aG a 0 := hr'
    obtain ⟨g0, g1⟩ := h7 r' c' hr' hc'
    exact ⟨(by rw [pk_un (by omega)]; exact g0), (by rw [pk_un (by omega)]; exact g1)⟩
  · have hr' : r' < aG a 0 := hr'
    rw [pk_un (by omega)]; exact h8 r' k e hr' he
theorem rC_lv {a : Abs} {f : Nat → Int32} (h : RepC a f) (hn : aG a 0 ≤ 9) {r : Nat} (x : Nat) (hr : r < aG a 0) : RepC (sF a 1 r x) (upd f (28 + r) (nI x)) := by
  obtain ⟨⟨h1, h2, h3, h4⟩, h5, h6, h7, h8⟩ := h
  refine ⟨⟨?_, ?_, ?_, ?_⟩, fun i p q => ?_, fun r' hr' => ?_, fun r' c' hr' hc' => ?_, fun r' k e hr' he => ?_⟩
  · rw [pk_un (by omega)]; exact h1
  · rw [pk_un (by omega)]; exact h2
  · rw [pk_un (by omega)]; exact h3
  · rw [pk_un (by omega)]; exact h4
  · rw [pk_un (by omega)]; exact h5 i p q
  · have hr' : r' < aG a 0 := hr'
    obtain ⟨g0, g1, g2, g3, g4, g5⟩ := h6 r' hr'
    exact ⟨(by rw [pk_un (by omega)]; exact g0.trans (congrArg nI (aF_o _ _ _ _ (by decide)).symm)), (by rw [pk_un (by omega)]; exact g1.trans (congrArg nI (aF_o _ _ _ _ (by decide)).symm)), (by
      by_cases z : r' = r
      · subst z; rw [pk_us]; exact congrArg nI (aF_s _ _ _ _).symm
      · rw [pk_un (by omega)]; exact g2.trans (congrArg nI (aF_r _ _ _ z).symm)), (by rw [pk_un (by omega)]; exact g3), (by rw [pk_un (by omega)]; exact g4), (by rw [pk_un (by omega)]; exact g5)⟩
  · have hr' : r' < aG a 0 := hr'
    obtain ⟨g0, g1⟩ := h7 r' c' hr' hc'
    exact ⟨(by rw [pk_un (by omega)]; exact g0), (by rw [pk_un (by omega)]; exact g1)⟩
  · have hr' : r' < aG a 0 := hr'
    rw [pk_un (by omega)]; exact h8 r' k e hr' he
theorem rC_tl {a : Abs} {f : Nat → Int32} (h : RepC a f) (hn : aG a 0 ≤ 9) {r : Nat} (x : Int32) (hr : r < aG a 0) : RepC (sD a 2 r x) (upd f (37 + r) (x)) := by
  obtain ⟨⟨h1, h2, h3, h4⟩, h5, h6, h7, h8⟩ := h
  refine ⟨⟨?_, ?_, ?_, ?_⟩, fun i p q => ?_, fun r' hr' => ?_, fun r' c' hr' hc' => ?_, fun r' k e hr' he => ?_⟩
  · rw [pk_un (by omega)]; exact h1
  · rw [pk_un (by omega)]; exact h2
  · rw [pk_un (by omega)]; exact h3
  · rw [pk_un (by omega)]; exact h4
  · rw [pk_un (by omega)]; exact h5 i p q
  · have hr' : r' < aG a 0 := hr'
    obtain ⟨g0, g1, g2, g3, g4, g5⟩ := h6 r' hr'
    exact ⟨(by rw [pk_un (by omega)]; exact g0), (by rw [pk_un (by omega)]; exact g1), (by rw [pk_un (by omega)]; exact g2), (by
      by_cases z : r' = r
      · subst z; rw [pk_us]; exact (aD_s _ _ _ _).symm
      · rw [pk_un (by omega)]; exact g3.trans ((aD_r _ _ _ z).symm)), (by rw [pk_un (by omega)]; exact g4.trans ((aD_o _ _ _ _ (by decide)).symm)), (by rw [pk_un (by omega)]; exact g5)⟩
  · have hr' : r' < aG a 0 := hr'
    obtain ⟨g0, g1⟩ := h7 r' c' hr' hc'
    exact ⟨(by rw [pk_un (by omega)]; exact g0), (by rw [pk_un (by omega)]; exact g1)⟩
  · have hr' : r' < aG a 0 := hr'
    rw [pk_un (by omega)]; exact h8 r' k e hr' he
theorem rC_cr {a : Abs} {f : Nat → Int32} (h : RepC a f) (hn : aG a 0 ≤ 9) {r : Nat} (x : Int32) (hr : r < aG a 0) : RepC (sD a 3 r x) (upd f (46 + r) (x)) := by
  obtain ⟨⟨h1, h2, h3, h4⟩, h5, h6, h7, h8⟩ := h
  refine ⟨⟨?_, ?_, ?_, ?_⟩, fun i p q => ?_, fun r' hr' => ?_, fun r' c' hr' hc' => ?_, fun r' k e hr' he => ?_⟩
  · rw [pk_un (by omega)]; exact h1
  · rw [pk_un (by omega)]; exact h2
  · rw [pk_un (by omega)]; exact h3
  · rw [pk_un (by omega)]; exact h4
  · rw [pk_un (by omega)]; exact h5 i p q
  · have hr' : r' < aG a 0 := hr'
    obtain ⟨g0, g1, g2, g3, g4, g5⟩ := h6 r' hr'
    exact ⟨(by rw [pk_un (by omega)]; exact g0), (by rw [pk_un (by omega)]; exact g1), (by rw [pk_un (by omega)]; exact g2), (by rw [pk_un (by omega)]; exact g3.trans ((aD_o _ _ _ _ (by decide)).symm)), (by
      by_cases z : r' = r
      · subst z; rw [pk_us]; exact (aD_s _ _ _ _).symm
      · rw [pk_un (by omega)]; exact g4.trans ((aD_r _ _ _ z).symm)), (by rw [pk_un (by omega)]; exact g5)⟩
  · have hr' : r' < aG a 0 := hr'
    obtain ⟨g0, g1⟩ := h7 r' c' hr' hc'
    exact ⟨(by rw [pk_un (by omega)]; exact g0), (by rw [pk_un (by omega)]; exact g1)⟩
  · have hr' : r' < aG a 0 := hr'
    rw [pk_un (by omega)]; exact h8 r' k e hr' he
theorem rC_day {a : Abs} {f : Nat → Int32} (h : RepC a f) (hn : aG a 0 ≤ 9) (x : Nat) : RepC (sG a 1 x) (upd f (0) (nI x)) := by
  obtain ⟨⟨h1, h2, h3, h4⟩, h5, h6, h7, h8⟩ := h
  refine ⟨⟨?_, ?_, ?_, ?_⟩, fun i p q => ?_, fun r' hr' => ?_, fun r' c' hr' hc' => ?_, fun r' k e hr' he => ?_⟩
  · exact pk_us
  · rw [pk_un (by omega)]; exact h2
  · rw [pk_un (by omega)]; exact h3
  · rw [pk_un (by omega)]; exact h4
  · rw [pk_un (by omega)]; exact h5 i p q
  · have hr' : r' < aG a 0 := hr'
    obtain ⟨g0, g1, g2, g3, g4, g5⟩ := h6 r' hr'
    exact ⟨(by rw [pk_un (by omega)]; exact g0), (by rw [pk_un (by omega)]; exact g1), (by rw [pk_un (by omega)]; exact g2), (by rw [pk_un (by omega)]; exact g3), (by rw [pk_un (by omega)]; exact g4), (by rw [pk_un (by omega)]; exact g5)⟩
  · have hr' : r' < aG a 0 := hr'
    obtain ⟨g0, g1⟩ := h7 r' c' hr' hc'
    exact ⟨(by rw [pk_un (by omega)]; exact g0), (by rw [pk_un (by omega)]; exact g1)⟩
  · have hr' : r' < aG a 0 := hr'
    rw [pk_un (by omega)]; exact h8 r' k e hr' he
theorem rC_brs {a : Abs} {f : Nat → Int32} (h : RepC a f) (hn : aG a 0 ≤ 9) (x : Nat) : RepC (sG a 2 x) (upd f (2) (nI x)) := by
  obtain ⟨⟨h1, h2, h3, h4⟩, h5, h6, h7, h8⟩ := h
  refine ⟨⟨?_, ?_, ?_, ?_⟩, fun i p q => ?_, fun r' hr' => ?_, fun r' c' hr' hc' => ?_, fun r' k e hr' he => ?_⟩
  · rw [pk_un (by omega)]; exact h1
  · rw [pk_un (by omega)]; exact h2
  · exact pk_us
  · rw [pk_un (by omega)]; exact h4
  · rw [pk_un (by omega)]; exact h5 i p q
  · have hr' : r' < aG a 0 := hr'
    obtain ⟨g0, g1, g2, g3, g4, g5⟩ := h6 r' hr'
    exact ⟨(by rw [pk_un (by omega)]; exact g0), (by rw [pk_un (by omega)]; exact g1), (by rw [pk_un (by omega)]; exact g2), (by rw [pk_un (by omega)]; exact g3), (by rw [pk_un (by omega)]; exact g4), (by rw [pk_un (by omega)]; exact g5)⟩
  · have hr' : r' < aG a 0 := hr'
    obtain ⟨g0, g1⟩ := h7 r' c' hr' hc'
    exact ⟨(by rw [pk_un (by omega)]; exact g0), (by rw [pk_un (by omega)]; exact g1)⟩
  · have hr' : r' < aG a 0 := hr'
    rw [pk_un (by omega)]; exact h8 r' k e hr' he
theorem rC_fds {a : Abs} {f : Nat → Int32} (h : RepC a f) (hn : aG a 0 ≤ 9) (x : Nat) : RepC (sG a 3 x) (upd f (3) (nI x)) := by
  obtain ⟨⟨h1, h2, h3, h4⟩, h5, h6, h7, h8⟩ := h
  refine ⟨⟨?_, ?_, ?_, ?_⟩, fun i p q => ?_, fun r' hr' => ?_, fun r' c' hr' hc' => ?_, fun r' k e hr' he => ?_⟩
  · rw [pk_un (by omega)]; exact h1
  · rw [pk_un (by omega)]; exact h2
  · rw [pk_un (by omega)]; exact h3
  · exact pk_us
  · rw [pk_un (by omega)]; exact h5 i p q
  · have hr' : r' < aG a 0 := hr'
    obtain ⟨g0, g1, g2, g3, g4, g5⟩ := h6 r' hr'
    exact ⟨(by rw [pk_un (by omega)]; exact g0), (by rw [pk_un (by omega)]; exact g1), (by rw [pk_un (by omega)]; exact g2), (by rw [pk_un (by omega)]; exact g3), (by rw [pk_un (by omega)]; exact g4), (by rw [pk_un (by omega)]; exact g5)⟩
  · have hr' : r' < aG a 0 := hr'
    obtain ⟨g0, g1⟩ := h7 r' c' hr' hc'
    exact ⟨(by rw [pk_un (by omega)]; exact g0), (by rw [pk_un (by omega)]; exact g1)⟩
  · have hr' : r' < aG a 0 := hr'
    rw [pk_un (by omega)]; exact h8 r' k e hr' he
/-- a margin changed: only its own places, and its length -/
theorem rC_M {a : Abs} {f g : Nat → Int32} (h : RepC a f) (hn : aG a 0 ≤ 9) {r : Nat} {L : List Ech} (hr : r < aG a 0) (hlen : ∀ q, q < aG a 0 → (aM a q).length ≤ 16) (ho : ∀ j, ¬ j = 55 + r → ¬ (208 + r * 16 ≤ j ∧ j < 208 + r * 16 + 16) → g j = f j) (h1 : g (55 + r) = nI L.length) (h2 : ∀ k e, L[k]? = some e → g (208 + r * 16 + k) = pkE e) : RepC (sM a r L) g := by
  obtain ⟨⟨e1, e2, e3, e4⟩, h5, h6, h7, h8⟩ := h
  refine ⟨⟨?_, ?_, ?_, ?_⟩, fun i p q => ?_, fun r' hr' => ?_, fun r' c' hr' hc' => ?_, fun r' k e hr' he => ?_⟩
  · rw [ho _ (by omega) (by omega)]; exact e1
  · rw [ho _ (by omega) (by omega)]; exact e2
  · rw [ho _ (by omega) (by omega)]; exact e3
  · rw [ho _ (by omega) (by omega)]; exact e4
  · rw [ho _ (by omega) (by omega)]; exact h5 i p q
  · have hr' : r' < aG a 0 := hr'
    obtain ⟨g0, g1, g2, g3, g4, g5⟩ := h6 r' hr'
    refine ⟨(by rw [ho _ (by omega) (by omega)]; exact g0), (by rw [ho _ (by omega) (by omega)]; exact g1), (by rw [ho _ (by omega) (by omega)]; exact g2), (by rw [ho _ (by omega) (by omega)]; exact g3), (by rw [ho _ (by omega) (by omega)]; exact g4), ?_⟩
    by_cases z : r' = r
    · subst z
      rw [h1]
      exact congrArg (fun t => nI (List.length t)) (up1_s _ _ _).symm
    · rw [ho _ (by omega) (by omega)]
      exact g5.trans (congrArg (fun t => nI (List.length t)) (up1_n _ _ z).symm)
  · have hr' : r' < aG a 0 := hr'
    obtain ⟨g0, g1⟩ := h7 r' c' hr' hc'
    exact ⟨(by rw [ho _ (by omega) (by omega)]; exact g0), (by rw [ho _ (by omega) (by omega)]; exact g1)⟩
  · have hr' : r' < aG a 0 := hr'
    by_cases z : r' = r
    · subst z
      exact h2 k e (by rw [← he]; exact congrArg (fun t : List Ech => t[k]?) (up1_s _ _ _).symm)
    · have he' : (aM a r')[k]? = some e := by rw [← he]; exact congrArg (fun t : List Ech => t[k]?) (up1_n _ _ z).symm
      have hk : k < (aM a r').length := (List.getElem?_eq_some_iff.mp he').1
      have := hlen r' hr'
      rw [ho _ (by omega) (by omega)]
      exact h8 r' k e hr' he'
