/-! plain words: values that may be missing, arrays looked at before they are used, loops with fuel -/
def inb (i : Int32) (n : Nat) : Bool := !(decide (i < 0) || decide (n ≤ i.toNatClampNeg))
theorem inb_in {i : Int32} {n : Nat} (h : inb i n = true) : vp_in i n := by
  intro q
  unfold inb at h
  rcases q with q | q
  · rw [decide_eq_true q] at h; cases h
  · rw [decide_eq_true q, Bool.or_true] at h; cases h
def ldA (n : Nat) (f : Nat → Int32) (i : Int32) : Option Int32 := if inb i n = true then some (f i.toNatClampNeg) else none
def stA (n : Nat) (f : Nat → Int32) (i x : Int32) : Option (Nat → Int32) := if inb i n = true then some (upd f i.toNatClampNeg x) else none
def rmA (x y : Int32) : Option Int32 := if y = 0 then none else some (x - x / y * y)
def cpA (n0 n1 : Nat) (f g : Nat → Int32) (sp dp n : Int32) : Option (Nat → Int32) := if ¬ sp < 0 ∧ ¬ dp < 0 ∧ ¬ n < 0 ∧ sp.toNatClampNeg + n.toNatClampNeg ≤ n0 ∧ dp.toNatClampNeg + n.toNatClampNeg ≤ n1 then some (va_cpy f g sp.toNatClampNeg dp.toNatClampNeg n.toNatClampNeg) else none
theorem ldA_in {n : Nat} {f : Nat → Int32} {i x : Int32} (h : ldA n f i = some x) : vp_in i n ∧ f i.toNatClampNeg = x := by
  unfold ldA at h
  split at h
  · next q => exact ⟨inb_in q, Option.some.inj h⟩
  · cases h
theorem stA_in {n : Nat} {f g : Nat → Int32} {i x : Int32} (h : stA n f i x = some g) : vp_in i n ∧ upd f i.toNatClampNeg x = g := by
  unfold stA at h
  split at h
  · next q => exact ⟨inb_in q, Option.some.inj h⟩
  · cases h
theorem rmA_in {x y z : Int32} (h : rmA x y = some z) : ¬ y = 0 ∧ x - x / y * y = z := by
  unfold rmA at h
  split at h
  · cases h
  · next q => exact ⟨q, Option.some.inj h⟩
theorem cpA_in {n0 n1 : Nat} {f g r : Nat → Int32} {sp dp n : Int32} (h : cpA n0 n1 f g sp dp n = some r) : (¬ sp < 0 ∧ ¬ dp < 0 ∧ ¬ n < 0 ∧ sp.toNatClampNeg + n.toNatClampNeg ≤ n0 ∧ dp.toNatClampNeg + n.toNatClampNeg ≤ n1) ∧ va_cpy f g sp.toNatClampNeg dp.toNatClampNeg n.toNatClampNeg = r := by
  unfold cpA at h
  split at h
  · next q => exact ⟨q, Option.some.inj h⟩
  · cases h
theorem bnd {α β : Type} {o : Option α} {K : α → Option β} {z : β} (h : o.bind K = some z) : ∃ v, o = some v ∧ K v = some z := by
  cases o with
  | none => cases h
  | some v => exact ⟨v, rfl, h⟩
theorem ifp {α : Type} {c : Prop} [Decidable c] {a b : Option α} {z : α} (hc : c) (h : (if c then a else b) = some z) : a = some z := by
  rw [if_pos hc] at h
  exact h
theorem ifn {α : Type} {c : Prop} [Decidable c] {a b : Option α} {z : α} (hc : ¬ c) (h : (if c then a else b) = some z) : b = some z := by
  rw [if_neg hc] at h
  exact h
/-- behind a piece that may have come to the end of all (right) or go on (left) -/
def cnt {α β : Type} (K : α → Option β) (w : α ⊕ β) : Option β := match w with
  | .inl a => K a
  | .inr b => some b
theorem cnt_l {α β : Type} {K : α → Option β} {a : α} {z : β} (h : cnt K (.inl a) = some z) : K a = some z := h
theorem cnt_r {α β : Type} {K : α → Option β} {b : β} {z : β} (h : cnt K (.inr b) = some z) : b = z := Option.some.inj h
def FU : Nat := 4000
def itr {σ ρ : Type} (step : σ → Option (σ ⊕ ρ)) : Nat → σ → Option ρ
  | 0, _ => none
  | n + 1, s => (step s).bind fun o => match o with
    | .inl s' => itr step n s'
    | .inr r => some r
theorem itr_ind {σ ρ : Type} {step : σ → Option (σ ⊕ ρ)} {P : σ → Prop} {w : ρ} (hs : ∀ s o, step s = some o → (∀ s', o = .inl s' → P s') → (∀ r, o = .inr r → r = w) → P s) : ∀ n s, itr step n s = some w → P s
  | 0, _, h => by cases h
  | n + 1, s, h => by
    obtain ⟨o, h1, h2⟩ := bnd (o := step s) h
    refine hs s o h1 (fun s' e => ?_) (fun r e => ?_)
    · subst e
      exact itr_ind hs n s' h2
    · subst e
      exact Option.some.inj h2
def fdivA (x y : UInt32) : Option UInt32 := if FP.fdiv x y &&& 0x7fffffff ≤ 0x7f800000 then some (FP.fdiv x y) else none
theorem fdivA_in {x y z : UInt32} (h : fdivA x y = some z) : vf_n32 (FP.fdiv x y) ∧ FP.fdiv x y = z := by
  unfold fdivA at h
  split at h
  · next q => exact ⟨q, Option.some.inj h⟩
  · cases h
def fmulA (x y : UInt32) : Option UInt32 := if FP.fmul x y &&& 0x7fffffff ≤ 0x7f800000 then some (FP.fmul x y) else none
theorem fmulA_in {x y z : UInt32} (h : fmulA x y = some z) : vf_n32 (FP.fmul x y) ∧ FP.fmul x y = z := by
  unfold fmulA at h
  split at h
  · next q => exact ⟨q, Option.some.inj h⟩
  · cases h
def fsubA (x y : UInt32) : Option UInt32 := if FP.fsub x y &&& 0x7fffffff ≤ 0x7f800000 then some (FP.fsub x y) else none
theorem fsubA_in {x y z : UInt32} (h : fsubA x y = some z) : vf_n32 (FP.fsub x y) ∧ FP.fsub x y = z := by
  unfold fsubA at h
  split at h
  · next q => exact ⟨q, Option.some.inj h⟩
  · cases h
def ixA (n : Nat) (i : Int32) : Option Nat := if inb i n = true then some i.toNatClampNeg else none
theorem ixA_in {n j : Nat} {i : Int32} (h : ixA n i = some j) : vp_in i n ∧ i.toNatClampNeg = j := by
  unfold ixA at h
  split at h
  · next q => exact ⟨inb_in q, Option.some.inj h⟩
  · cases h
theorem ixA_lt {n j : Nat} {i : Int32} (h : ixA n i = some j) (_ : 0 < n) : j < n := by
  obtain ⟨h1, h2⟩ := ixA_in h
  rcases Nat.lt_or_ge j n with q | q
  · exact q
  · exact absurd (Or.inr (by rw [h2]; exact q)) h1
theorem lt5 {v : Nat} (h : v < 5) : v = 0 ∨ v = 1 ∨ v = 2 ∨ v = 3 ∨ v = 4 := by omega
