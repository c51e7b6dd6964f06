/-! loops, places, packed echoes -/
theorem itr_l {σ ρ : Type} {step : σ → Option (σ ⊕ ρ)} {n : Nat} {s s' : σ} (h : step s = some (.inl s')) : itr step (n + 1) s = itr step n s' := by
  show (step s).bind _ = _
  rw [h]
  rfl
theorem itr_r {σ ρ : Type} {step : σ → Option (σ ⊕ ρ)} {n : Nat} {s : σ} {r : ρ} (h : step s = some (.inr r)) : itr step (n + 1) s = some r := by
  show (step s).bind _ = _
  rw [h]
  rfl
/-- a loop that goes N times, with its state known -/
theorem itr_for {σ ρ : Type} {step : σ → Option (σ ⊕ ρ)} (N : Nat) (I : Nat → σ) (r : ρ) (hs : ∀ k, k < N → step (I k) = some (.inl (I (k + 1)))) (he : step (I N) = some (.inr r)) : ∀ F, N < F → itr step F (I 0) = some r := by
  have key : ∀ m k F, k + m = N → m < F → itr step F (I k) = some r := by
    intro m
    induction m with
    | zero =>
      intro k F hk hF
      obtain ⟨F', rfl⟩ : ∃ F', F = F' + 1 := ⟨F - 1, by omega⟩
      have : k = N := by omega
      subst this
      exact itr_r he
    | succ m ih =>
      intro k F hk hF
      obtain ⟨F', rfl⟩ : ∃ F', F = F' + 1 := ⟨F - 1, by omega⟩
      rw [itr_l (hs k (by omega))]
      exact ih (k + 1) F' (by omega) (by omega)
  exact fun F hF => key N 0 F (by omega) hF
/-- a loop that goes at most N times, with what holds of its state -/
theorem itr_gen {σ ρ : Type} {step : σ → Option (σ ⊕ ρ)} (N : Nat) (I : Nat → σ → Prop) (P : ρ → Prop) (hs : ∀ k s, k ≤ N → I k s → (k < N ∧ ∃ s', step s = some (.inl s') ∧ I (k + 1) s') ∨ ∃ r, step s = some (.inr r) ∧ P r) : ∀ F s, N < F → I 0 s → ∃ r, itr step F s = some r ∧ P r := by
  have key : ∀ m k F s, k + m = N → m < F → I k s → ∃ r, itr step F s = some r ∧ P r := by
    intro m
    induction m with
    | zero =>
      intro k F s hk hF hI
      obtain ⟨F', rfl⟩ : ∃ F', F = F' + 1 := ⟨F - 1, by omega⟩
      rcases hs k s (by omega) hI with ⟨h, _⟩ | ⟨r, h1, h2⟩
      · omega
      · exact ⟨r, itr_r h1, h2⟩
    | succ m ih =>
      intro k F s hk hF hI
      obtain ⟨F', rfl⟩ : ∃ F', F = F' + 1 := ⟨F - 1, by omega⟩
      rcases hs k s (by omega) hI with ⟨h, s', h1, h2⟩ | ⟨r, h1, h2⟩
      · rw [itr_l h1]
        exact ih (k + 1) F' s' (by omega) (by omega) h2
      · exact ⟨r, itr_r h1, h2⟩
  exact fun F s hF hI => key N 0 F s (by omega) hF hI
theorem FU_lt {n : Nat} (h : n < 4000) : n < FU := h
theorem inb_nI {i n : Nat} (h : i < n) (hn : n < 2 ^ 31) : inb (nI i) n = true := by
  unfold inb
  rw [decide_eq_false (nI_pos (by omega)), nI_clamp (by omega), decide_eq_false (by omega)]
  rfl
theorem ldA_nI {n : Nat} {f : Nat → Int32} {i : Nat} (h : i < n) (hn : n < 2 ^ 31) : ldA n f (nI i) = some (f i) := by
  unfold ldA
  rw [if_pos (inb_nI h hn), nI_clamp (by omega)]
theorem stA_nI {n : Nat} {f : Nat → Int32} {i : Nat} (x : Int32) (h : i < n) (hn : n < 2 ^ 31) : stA n f (nI i) x = some (upd f i x) := by
  unfold stA
  rw [if_pos (inb_nI h hn), nI_clamp (by omega)]
theorem getN (f : Nat → Int32) {i : Nat} (h : i < 352) : MX3_get f (nI i) = some (f i) := by
  unfold MX3_get
  rw [if_neg (nI_pos (by omega)), if_neg (show ¬ (352 : Int32) ≤ nI i from nI_ge (b := 352) h (by decide)), ldA_nI h (by decide)]
  rfl
theorem putN (f : Nat → Int32) {i : Nat} (x : Int32) (h : i < 352) : MX3_put f (nI i) x = some (upd f i x) := by
  unfold MX3_put
  rw [if_neg (nI_pos (by omega)), if_neg (show ¬ (352 : Int32) ≤ nI i from nI_ge (b := 352) h (by decide)), stA_nI x h (by decide)]
  rfl
theorem addN (f : Nat → Int32) {i : Nat} (x : Int32) (h : i < 352) : MX3_add f (nI i) x = some (upd f i (f i + x)) := by
  unfold MX3_add
  rw [getN f h]
  show (MX3_put f (nI i) (f i + x)).bind _ = _
  rw [putN f _ h]
  rfl
theorem ix_a (k r : Nat) : nI k + nI r = nI (k + r) := nI_add k r
theorem ix_8 (r c : Nat) : nI r * 8 + nI c = nI (r * 8 + c) := by
  rw [show (8 : Int32) = nI 8 from rfl, pk_mul, nI_add]
theorem ix_8k (k r c : Nat) : (nI k + nI r * 8) + nI c = nI (k + r * 8 + c) := by
  rw [show (8 : Int32) = nI 8 from rfl, pk_mul, nI_add, nI_add]
theorem ix_16 (k r c : Nat) : (nI k + nI r * 16) + nI c = nI (k + r * 16 + c) := by
  rw [show (16 : Int32) = nI 16 from rfl, pk_mul, nI_add, nI_add]
theorem nI_m1 {n : Nat} (h : 0 < n) : nI n - 1 = nI (n - 1) := by
  rw [show (1 : Int32) = nI 1 from rfl, pk_sub h]
theorem m1_ne (n : Nat) (h : n < 2 ^ 31) : ¬ nI n = -1 := by
  intro q
  have := nI_pos h
  rw [q] at this
  exact this (by decide)
theorem m1_of0 : nI 0 - 1 = -1 := by decide
/-- packed echoes -/
def okE (e : Ech) : Prop := e.1 < 72 ∧ e.2.1 ≤ 999 ∧ e.2.2 ≤ 9999
theorem pkE_lt {e : Ech} (h : okE e) : e.1 * 16777216 + e.2.1 * 16384 + e.2.2 < 2 ^ 31 := by
  obtain ⟨h1, h2, h3⟩ := h
  omega
theorem own_pk {e : Ech} (h : okE e) : MX3_ownerOf (pkE e) = some (nI e.1) := by
  unfold MX3_ownerOf pkE
  rw [pk_shrN (pkE_lt h) _ 24 (by decide)]
  obtain ⟨h1, h2, h3⟩ := h
  rw [show (e.1 * 16777216 + e.2.1 * 16384 + e.2.2) / 2 ^ 24 = e.1 by omega]
theorem val_pk {e : Ech} (h : okE e) : MX3_valueOf (pkE e) = some (nI e.2.1) := by
  unfold MX3_valueOf pkE
  rw [pk_shrN (pkE_lt h) _ 14 (by decide), pk_andN (by obtain ⟨h1, h2, h3⟩ := h; omega) 10 (by decide)]
  obtain ⟨h1, h2, h3⟩ := h
  rw [show (e.1 * 16777216 + e.2.1 * 16384 + e.2.2) / 2 ^ 14 % 2 ^ 10 = e.2.1 by omega]
theorem day_pk {e : Ech} (h : okE e) : MX3_dayOf (pkE e) = some (nI e.2.2) := by
  unfold MX3_dayOf pkE
  rw [pk_andN (by have := pkE_lt h; omega) 14 (by decide)]
  obtain ⟨h1, h2, h3⟩ := h
  rw [show (e.1 * 16777216 + e.2.1 * 16384 + e.2.2) % 2 ^ 14 = e.2.2 by omega]
theorem or_sum {a k : Nat} (b : Nat) (h : a < 2 ^ k) : nI (2 ^ k * b) ||| nI a = nI (2 ^ k * b + a) := by
  have e : ∀ x y : Nat, nI x ||| nI y = nI (x ||| y) := by
    intro x y
    apply Int32.toBitVec_inj.mp
    show BitVec.ofNat 32 x ||| BitVec.ofNat 32 y = BitVec.ofNat 32 (x ||| y)
    apply BitVec.eq_of_toNat_eq
    simp [Nat.or_mod_two_pow]
  rw [e, Nat.two_pow_add_eq_or_of_lt h]
theorem echo_pk {o v d : Nat} (h : okE (o, v, d)) : MX3_echo (nI o) (nI v) (nI d) = some (pkE (o, v, d)) := by
  obtain ⟨h1, h2, h3⟩ := h
  dsimp only at h1 h2 h3
  unfold MX3_echo pkE
  rw [pk_shlN _ 24 (by decide) (by omega), pk_shlN _ 14 (by decide) (by omega)]
  rw [show o * 2 ^ 24 = 2 ^ 24 * o by omega, or_sum (k := 24) o (show v * 2 ^ 14 < 2 ^ 24 by omega), show 2 ^ 24 * o + v * 2 ^ 14 = 2 ^ 14 * (2 ^ 10 * o + v) by omega, or_sum (k := 14) _ (show d < 2 ^ 14 by omega)]
theorem m1_ne_pk {e : Ech} (h : okE e) : ¬ pkE e = -1 := m1_ne _ (pkE_lt h)
