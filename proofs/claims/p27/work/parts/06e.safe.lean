/-! safeFor: the least of what is left, both sides -/
def enO (o : Option Nat) : Int32 := match o with
  | some n => nI n
  | none => -1000004
def cmb (x y : Option Nat) : Option Nat := match x, y with
  | none, y => y
  | some p, none => some p
  | some p, some q => some (if p ≤ q then p else q)
def ageO (a : Abs) (r c : Nat) : Option Nat := if aV a r c = 0 then none else (aHeard a r c).map (fun e => aG a 1 - e.2.2)
def jn (x y : Option Nat) : Option Nat := match x, y with
  | some p, some q => some (if p < q then q else p)
  | none, y => y
  | x, none => x
def mxO (a : Abs) (r : Nat) : Nat → Option Nat
  | 0 => none
  | k + 1 => jn (mxO a r k) (ageO a r k)
def lftO (a : Abs) (o : Option Nat) : Option Nat := o.map (fun m => aG a 3 - m + 1)
def rowsO (a : Abs) : Nat → Option Nat
  | 0 => none
  | k + 1 => if aSafe a k = true then cmb (rowsO a k) (lftO a (mxO a k 8)) else rowsO a k
theorem sm_full {f : Nat → Nat} : ∀ n, (∀ k, k < n → f k ≤ 1) → sm f n = n → ∀ k, k < n → f k = 1
  | 0, _, _, k, hk => absurd hk (by omega)
  | n + 1, h, e, k, hk => by
    have e2 : sm f n + f n = n + 1 := e
    have h1 := h n (by omega)
    have h2 := sm_ub (f := f) (b := 1) n (fun k hk => h k (by omega))
    by_cases q : k = n
    · subst q; omega
    · exact sm_full n (fun k hk => h k (by omega)) (by omega) k (by omega)
theorem safe_all {a : Abs} {r : Nat} (h : aSafe a r = true) {c : Nat} (hc : c < 8) : ¬ aV a r c = 0 → aHv a r c = aV a r c := by
  intro q
  have h1 := (of_decide_eq_true h).2
  unfold aBack aUnk at h1
  rw [← sm_add] at h1
  have h2 := sm_full 8 (fun k _ => by
    by_cases z : aV a r k = 0
    · rw [decide_eq_true z, decide_eq_false (show ¬ 0 < aV a r k by omega)]; exact Nat.le_refl 1
    · rw [decide_eq_false z]; exact b1_le _) h1 c hc
  rw [decide_eq_false q] at h2
  by_cases w : aHv a r c = aV a r c
  · exact w
  · rw [decide_eq_false w, Bool.and_false] at h2
    exact absurd h2 (by decide)
theorem safe_hear {a : Abs} {r : Nat} (h : aSafe a r = true) {c : Nat} (hc : c < 8) (q : ¬ aV a r c = 0) : ∃ e, aHeard a r c = some e := by
  have h1 := safe_all h hc q
  cases w : aHeard a r c with
  | none => rw [hv_none w] at h1; exact absurd h1.symm q
  | some e => exact ⟨e, rfl⟩
theorem mx_ub {a : Abs} (hi : aInv a) (r : Nat) : ∀ k m, mxO a r k = some m → m ≤ aG a 3
  | 0, m, h => absurd h (by intro w; exact Option.noConfusion rfl (heq_of_eq w))
  | k + 1, m, h => by
    have hA : ∀ d, ageO a r k = some d → d ≤ aG a 3 := by
      intro d hd
      unfold ageO at hd
      by_cases z : aV a r k = 0
      · rw [if_pos z] at hd; cases hd
      · rw [if_neg z] at hd
        cases w : aHeard a r k with
        | none => rw [w] at hd; cases hd
        | some e =>
          rw [w] at hd
          have := (heard_ok hi w).2.2
          have e2 : aG a 1 - e.2.2 = d := Option.some.inj hd
          omega
    have ih := mx_ub hi r k
    unfold mxO at h
    cases w1 : mxO a r k with
    | none =>
      rw [w1] at h
      cases w2 : ageO a r k with
      | none => rw [w2] at h; cases h
      | some d => rw [w2] at h; have := hA d w2; have : d = m := Option.some.inj h; omega
    | some p =>
      rw [w1] at h
      have := ih p w1
      cases w2 : ageO a r k with
      | none => rw [w2] at h; have : p = m := Option.some.inj h; omega
      | some d =>
        rw [w2] at h
        have := hA d w2
        have e2 : (if p < d then d else p) = m := Option.some.inj h
        by_cases z : p < d
        · rw [if_pos z] at e2; omega
        · rw [if_neg z] at e2; omega
theorem cmb_step {a : Abs} (A : Option Nat) {M : Option Nat} {d : Nat} (hM : ∀ m, M = some m → m ≤ aG a 3) (hd : d ≤ aG a 3) : cmb (cmb A (lftO a M)) (some (aG a 3 - d + 1)) = cmb A (lftO a (jn M (some d))) := by
  cases M with
  | none =>
    cases A with
    | none => rfl
    | some x => rfl
  | some p =>
    have := hM p rfl
    cases A with
    | none =>
      show some (if aG a 3 - p + 1 ≤ aG a 3 - d + 1 then aG a 3 - p + 1 else aG a 3 - d + 1) = some (aG a 3 - (if p < d then d else p) + 1)
      by_cases z : p < d
      · rw [if_pos z, if_neg (by omega)]
      · rw [if_neg z, if_pos (by omega)]
    | some x =>
      show some (if (if x ≤ aG a 3 - p + 1 then x else aG a 3 - p + 1) ≤ aG a 3 - d + 1 then (if x ≤ aG a 3 - p + 1 then x else aG a 3 - p + 1) else aG a 3 - d + 1) = some (if x ≤ aG a 3 - (if p < d then d else p) + 1 then x else aG a 3 - (if p < d then d else p) + 1)
      congr 1
      by_cases z : p < d
      · rw [if_pos z]
        by_cases y : x ≤ aG a 3 - p + 1
        · rw [if_pos y]
        · rw [if_neg y, if_neg (by omega), if_neg (by omega)]
      · rw [if_neg z]
        by_cases y : x ≤ aG a 3 - p + 1
        · rw [if_pos y, if_pos (by omega)]
        · rw [if_neg y, if_pos (by omega)]
theorem en_m (n : Nat) (h : n < 2 ^ 30) : ¬ nI n = -1000004 := by
  intro q
  have := congrArg Int32.toInt q
  rw [nI_toInt (by omega), show (-1000004 : Int32).toInt = -1000004 from by decide] at this
  omega
theorem rows_ub {a : Abs} : ∀ k m, rowsO a k = some m → m ≤ aG a 3 + 1
  | 0, m, h => by cases h
  | k + 1, m, h => by
    have ih := rows_ub (a := a) k
    unfold rowsO at h
    by_cases q : aSafe a k = true
    · rw [if_pos q] at h
      cases w1 : rowsO a k with
      | none =>
        rw [w1] at h
        cases w2 : mxO a k 8 with
        | none => rw [w2] at h; cases h
        | some d => rw [w2] at h; have : aG a 3 - d + 1 = m := Option.some.inj h; omega
      | some p =>
        rw [w1] at h
        have := ih p w1
        cases w2 : mxO a k 8 with
        | none => rw [w2] at h; have : p = m := Option.some.inj h; omega
        | some d =>
          rw [w2] at h
          have e2 : (if p ≤ aG a 3 - d + 1 then p else aG a 3 - d + 1) = m := Option.some.inj h
          by_cases z : p ≤ aG a 3 - d + 1
          · rw [if_pos z] at e2; omega
          · rw [if_neg z] at e2; omega
    · rw [if_neg q] at h; exact ih m h
theorem cmb_ub {a : Abs} {A M : Option Nat} (hA : ∀ m, A = some m → m ≤ aG a 3 + 1) (m : Nat) (h : cmb A (lftO a M) = some m) : m ≤ aG a 3 + 1 := by
  cases A with
  | none =>
    cases M with
    | none => cases h
    | some d => have : aG a 3 - d + 1 = m := Option.some.inj h; omega
  | some p =>
    have := hA p rfl
    cases M with
    | none => have : p = m := Option.some.inj h; omega
    | some d =>
      have e2 : (if p ≤ aG a 3 - d + 1 then p else aG a 3 - d + 1) = m := Option.some.inj h
      by_cases z : p ≤ aG a 3 - d + 1
      · rw [if_pos z] at e2; omega
      · rw [if_neg z] at e2; omega
section SAFE
variable {a : Abs} {f s : Nat → Int32}
theorem C_until (h : RepC a f) (hi : aInv a) {r : Nat} (hr : r < aG a 0) : MX4_daysUntilFaded f (nI r) = some (enO (lftO a (mxO a r 8))) := by
  have hF := hi.2.2.2.1.2
  unfold MX4_daysUntilFaded
  rw [show ((-1000004 : Int32), (0 : Int32)) = (enO (mxO a r 0), nI 0) from rfl, itr_for (step := SX4_daysUntilFaded_5 f (nI r)) 8 (fun k => (enO (mxO a r k), nI k)) (enO (mxO a r 8)) (fun k hk => ?_) (by unfold SX4_daysUntilFaded_5; dsimp only; rw [if_pos (by decide)]) FU (FU_lt (by omega))]
  · rw [Option.bind_some]
    cases q : mxO a r 8 with
    | none => rw [show enO none = -1000004 from rfl, if_pos rfl]; rfl
    | some m =>
      have := mx_ub hi r 8 m q
      rw [show enO (some m) = nI m from rfl, if_neg (en_m m (by omega)), C_fds h, Option.bind_some, pk_sub this, nI_1]
      rfl
  · unfold SX4_daysUntilFaded_5
    dsimp only
    have hm := mx_ub hi r k
    rw [if_neg (show ¬ (8 : Int32) ≤ nI k from nI_ge (b := 8) hk (by decide)), C_fresh h hi hr hk, Option.bind_some, C_known h hi hr hk, Option.bind_some, nI_1]
    show _ = some (Sum.inl (enO (jn (mxO a r k) (ageO a r k)), nI (k + 1)))
    unfold ageO
    by_cases z : aV a r k = 0
    · rw [if_pos z, if_pos rfl, if_pos z]
      cases mxO a r k <;> rfl
    · rw [if_neg z, if_neg one_n0, if_neg z]
      cases w : aHeard a r k with
      | none =>
        rw [show frE none = -1 from rfl, if_pos rfl]
        cases mxO a r k <;> rfl
      | some e =>
        have ho := heard_ok hi w
        have hd := ho.1.2.2
        rw [show frE (some e) = pkE e from rfl, if_neg (m1_ne_pk ho.1), C_age h ho.1 ho.2.1, Option.bind_some]
        cases y : mxO a r k with
        | none =>
          rw [show enO none = -1000004 from rfl, if_pos (by
            rw [Int32.lt_iff_toInt_lt, nI_toInt (by omega), show (-1000004 : Int32).toInt = -1000004 from by decide]
            omega)]
          rfl
        | some p =>
          have := hm p y
          rw [show enO (some p) = nI p from rfl]
          show some (Sum.inl ((if nI p < nI (aG a 1 - e.2.2) then nI (aG a 1 - e.2.2) else nI p), nI (k + 1))) = some (Sum.inl (nI (if p < aG a 1 - e.2.2 then aG a 1 - e.2.2 else p), nI (k + 1)))
          by_cases x : p < aG a 1 - e.2.2
          · rw [if_pos x, if_pos (nI_lt x (by omega))]
          · rw [if_neg x, if_neg (nI_nlt (by omega) (by omega))]
theorem C_safeFor (h : RepC a f) (hi : aInv a) : MX4_daysSafe f = some (enO (rowsO a (aG a 0))) := by
  have hn := hi.1.2
  have hF := hi.2.2.2.1.2
  have hb : bits (aSafe a) (aG a 0) < 2 ^ 9 := Nat.lt_of_lt_of_le (bits_lt _ _) (Nat.pow_le_pow_right (by decide) hn)
  unfold MX4_daysSafe
  rw [C_safe h hi, Option.bind_some, show ((-1000004 : Int32), (0 : Int32)) = (enO (rowsO a 0), nI 0) from rfl, itr_for (step := SX4_daysSafe_10 f (nI (bits (aSafe a) (aG a 0)))) (aG a 0) (fun k => (enO (rowsO a k), nI k)) (enO (rowsO a (aG a 0))) (fun k hk => ?_) (by unfold SX4_daysSafe_10; dsimp only; rw [C_n h, Option.bind_some, if_pos (nI_le (Nat.le_refl _) (by omega))]) FU (FU_lt (by omega))]
  · rfl
  · unfold SX4_daysSafe_10
    dsimp only
    rw [C_n h, Option.bind_some, if_neg (nI_ge hk (by omega)), bit_at (by omega) (by omega), bits_get _ hk, nI_1]
    show _ = some (Sum.inl (enO (if aSafe a k = true then cmb (rowsO a k) (lftO a (mxO a k 8)) else rowsO a k), nI (k + 1)))
    by_cases q : aSafe a k = true
    · rw [q, if_pos (show nI (b1 true) = 1 from rfl), if_pos rfl, C_until h hi hk, Option.bind_some]
      cases w : mxO a k 8 with
      | none =>
        rw [show enO (lftO a none) = -1000004 from rfl, if_pos rfl]
        cases rowsO a k <;> rfl
      | some m =>
        rw [show enO (lftO a (some m)) = nI (aG a 3 - m + 1) from rfl, if_neg (en_m _ (by omega))]
        cases y : rowsO a k with
        | none => rw [show enO none = -1000004 from rfl, if_pos rfl]; rfl
        | some p =>
          have := rows_ub k p y
          rw [show enO (some p) = nI p from rfl, if_neg (en_m _ (by omega))]
          show _ = some (Sum.inl (nI (if p ≤ aG a 3 - m + 1 then p else aG a 3 - m + 1), nI (k + 1)))
          by_cases x : p ≤ aG a 3 - m + 1
          · rw [if_pos x, if_pos (nI_le x (by omega))]
          · rw [if_neg x, if_neg (nI_ge (by omega) (by omega))]
    · rw [if_neg q, Bool.eq_false_iff.mpr q, if_neg (show ¬ nI (b1 false) = 1 by decide)]
end SAFE
