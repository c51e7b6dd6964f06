/-! whole numbers divided: both sides tell the quotient's bits alike -/
theorem l2_of {n k : Nat} (h1 : 2 ^ k ≤ n) (h2 : n < 2 ^ (k + 1)) : n.log2 = k := by
  have hn : n ≠ 0 := by
    intro z
    rw [z] at h1
    exact absurd h1 (Nat.not_le.mpr (Nat.two_pow_pos k))
  have a1 := (Nat.le_log2 hn).mpr h1
  have a2 := (Nat.log2_lt hn).mpr h2
  omega
theorem ld_mul {c j : Nat} (h1 : 2 ^ 23 ≤ c) (h2 : c < 2 ^ 24) : FP.Core.leading (c * 2 ^ j) 1 = ((23 + j : Nat) : Int) := by
  have hl : (c * 2 ^ j).log2 = 23 + j := by
    apply l2_of
    · rw [Nat.pow_add]; exact Nat.mul_le_mul_right _ h1
    · rw [show 23 + j + 1 = 24 + j by omega, Nat.pow_add]
      exact Nat.mul_lt_mul_of_pos_right h2 (Nat.two_pow_pos j)
  unfold FP.Core.leading
  dsimp only
  rw [hl, show (1 : Nat).log2 = 0 from rfl]
  rw [if_pos]
  · omega
  · rw [show (((23 + j : Nat) : Int) - ((0 : Nat) : Int)).toNat = 23 + j by omega, show (-(((23 + j : Nat) : Int) - ((0 : Nat) : Int))).toNat = 0 by omega, Nat.one_mul, Nat.pow_zero, Nat.mul_one, Nat.pow_add]
    exact Nat.mul_le_mul_right _ h1
theorem ld_low {t k : Nat} (hk : k ≤ 23) (h1 : 2 ^ 23 ≤ t * 2 ^ k) (h2 : t * 2 ^ k < 2 ^ 24) : FP.Core.leading t 1 = ((23 - k : Nat) : Int) ∧ 2 ^ (23 - k) ≤ t := by
  have e1 : 2 ^ 23 = 2 ^ (23 - k) * 2 ^ k := by rw [← Nat.pow_add]; congr 1; omega
  have e2 : 2 ^ 24 = 2 ^ (23 - k + 1) * 2 ^ k := by rw [← Nat.pow_add]; congr 1; omega
  have a1 : 2 ^ (23 - k) ≤ t := by
    rw [e1] at h1
    exact Nat.le_of_mul_le_mul_right h1 (Nat.two_pow_pos k)
  have a2 : t < 2 ^ (23 - k + 1) := by
    rw [e2] at h2
    exact Nat.lt_of_mul_lt_mul_right h2
  have hl : t.log2 = 23 - k := l2_of a1 a2
  refine ⟨?_, a1⟩
  unfold FP.Core.leading
  dsimp only
  rw [hl, show (1 : Nat).log2 = 0 from rfl]
  rw [if_pos]
  · omega
  · rw [show (((23 - k : Nat) : Int) - ((0 : Nat) : Int)).toNat = 23 - k by omega, show (-(((23 - k : Nat) : Int) - ((0 : Nat) : Int))).toNat = 0 by omega, Nat.one_mul, Nat.pow_zero, Nat.mul_one]
    exact a1
theorem near_ex {c d : Nat} (hd : 0 < d) : FP.Core.nearest (c * d) d = c := by
  unfold FP.Core.nearest
  rw [Nat.mul_mod_left, if_pos (by omega), Nat.mul_div_cancel _ hd]
theorem settle_ok {c : Nat} {q : Int} (h2 : c < 2 ^ 24) (hq : q ≤ 104) : FP.Core.settle FP.Core.b32 false c q = .fin false c q := by
  unfold FP.Core.settle
  rw [if_pos (show c < 2 ^ FP.Core.b32.p from h2)]
  unfold FP.Core.bound
  rw [if_pos (show q ≤ FP.Core.b32.qmax from hq)]
theorem rr_mul {c j : Nat} {e : Int} (h1 : 2 ^ 23 ≤ c) (h2 : c < 2 ^ 24) (q1 : -149 ≤ e + j) (q2 : e + j ≤ 104) : FP.Core.roundRatio FP.Core.b32 false (c * 2 ^ j) 1 e = .fin false c (e + j) := by
  unfold FP.Core.roundRatio
  rw [if_neg (by
    intro z
    have := Nat.mul_le_mul_right (2 ^ j) h1
    rw [z] at this
    exact absurd this (Nat.not_le.mpr (Nat.mul_pos (by decide) (Nat.two_pow_pos j))))]
  have hq : FP.Core.quantum FP.Core.b32 (c * 2 ^ j) 1 e = e + j := by
    unfold FP.Core.quantum
    rw [ld_mul h1 h2, show FP.Core.b32.qmin = -149 from rfl, show ((FP.Core.b32.p : Nat) : Int) = 24 from rfl]
    omega
  rw [hq]
  unfold FP.Core.roundAt FP.Core.unitsNum FP.Core.unitsDen
  rw [show (e - (e + (j : Int))).toNat = 0 by omega, show (e + (j : Int) - e).toNat = j by omega, Nat.pow_zero, Nat.mul_one, Nat.one_mul, near_ex (Nat.two_pow_pos j)]
  exact settle_ok h2 q2
theorem rr_low {t k : Nat} {e : Int} (hk : k ≤ 23) (h1 : 2 ^ 23 ≤ t * 2 ^ k) (h2 : t * 2 ^ k < 2 ^ 24) (q1 : -149 ≤ e - k) (q2 : e - k ≤ 104) : FP.Core.roundRatio FP.Core.b32 false t 1 e = .fin false (t * 2 ^ k) (e - k) := by
  obtain ⟨a1, a2⟩ := ld_low hk h1 h2
  unfold FP.Core.roundRatio
  rw [if_neg (by
    intro z
    rw [z] at a2
    exact absurd a2 (Nat.not_le.mpr (Nat.two_pow_pos _)))]
  have hq : FP.Core.quantum FP.Core.b32 t 1 e = e - k := by
    unfold FP.Core.quantum
    rw [a1, show FP.Core.b32.qmin = -149 from rfl, show ((FP.Core.b32.p : Nat) : Int) = 24 from rfl]
    omega
  rw [hq]
  unfold FP.Core.roundAt FP.Core.unitsNum FP.Core.unitsDen
  rw [show (e - (e - (k : Int))).toNat = k by omega, show (e - (k : Int) - e).toNat = 0 by omega, Nat.pow_zero, Nat.one_mul]
  have := near_ex (c := t * 2 ^ k) (d := 1) (by decide)
  rw [Nat.mul_one] at this
  rw [this]
  exact settle_ok h2 q2
theorem ld_two {c d : Nat} (h1 : 2 ^ 23 ≤ c) (h2 : c < 2 ^ 24) (h3 : 2 ^ 23 ≤ d) (h4 : d < 2 ^ 24) : FP.Core.leading c d = if d ≤ c then 0 else -1 := by
  unfold FP.Core.leading
  dsimp only
  rw [l2_of h1 h2, l2_of h3 h4]
  rw [show ((((23 : Nat) : Int) - ((23 : Nat) : Int))) = 0 by omega, show (-(0 : Int)).toNat = 0 from rfl, show (0 : Int).toNat = 0 from rfl, Nat.pow_zero, Nat.mul_one, Nat.mul_one]
  rfl
theorem near_le {n d b : Nat} (hd : 0 < d) (h : n < b * d) : FP.Core.nearest n d ≤ b := by
  have : n / d < b := (Nat.div_lt_iff_lt_mul hd).mpr h
  unfold FP.Core.nearest
  split
  · omega
  · split
    · omega
    · have := Nat.mod_lt (n / d) (show 0 < 2 by decide)
      omega
theorem near_ge {n d b : Nat} (hd : 0 < d) (h : b * d ≤ n) : b ≤ FP.Core.nearest n d := by
  have : b ≤ n / d := (Nat.le_div_iff_mul_le hd).mpr h
  unfold FP.Core.nearest
  split
  · omega
  · split
    · omega
    · omega
theorem settle_some {c : Nat} {q : Int} (h1 : 2 ^ 23 ≤ c) (h2' : c ≤ 2 ^ 24) (hq : q ≤ 103) : ∃ c' q', FP.Core.settle FP.Core.b32 false c q = .fin false c' q' ∧ 2 ^ 23 ≤ c' ∧ c' < 2 ^ 24 ∧ q ≤ q' ∧ q' ≤ q + 1 := by
  unfold FP.Core.settle
  by_cases h : c < 2 ^ 24
  · rw [if_pos (show c < 2 ^ FP.Core.b32.p from h)]
    unfold FP.Core.bound
    rw [if_pos (show q ≤ FP.Core.b32.qmax from (show q ≤ 104 by omega))]
    exact ⟨c, q, rfl, h1, h, by omega, by omega⟩
  · rw [if_neg (show ¬ c < 2 ^ FP.Core.b32.p from h)]
    unfold FP.Core.bound
    rw [if_pos (show q + 1 ≤ FP.Core.b32.qmax from (show q + 1 ≤ 104 by omega))]
    exact ⟨_, _, rfl, by decide, by decide, by omega, by omega⟩
/-- a FP.Core.quotient of two normal numbers -/
theorem rr_two {c d : Nat} {e : Int} (h1 : 2 ^ 23 ≤ c) (h2 : c < 2 ^ 24) (h3 : 2 ^ 23 ≤ d) (h4 : d < 2 ^ 24) (q1 : -100 ≤ e) (q2 : e ≤ 100) : ∃ c' q', FP.Core.roundRatio FP.Core.b32 false c d e = .fin false c' q' ∧ 2 ^ 23 ≤ c' ∧ c' < 2 ^ 24 ∧ -149 ≤ q' ∧ q' ≤ 104 := by
  unfold FP.Core.roundRatio
  rw [if_neg (by omega)]
  by_cases w : d ≤ c
  · have hq : FP.Core.quantum FP.Core.b32 c d e = e - 23 := by
      unfold FP.Core.quantum
      rw [ld_two h1 h2 h3 h4, if_pos w, show FP.Core.b32.qmin = -149 from rfl, show ((FP.Core.b32.p : Nat) : Int) = 24 from rfl]
      omega
    rw [hq]
    unfold FP.Core.roundAt FP.Core.unitsNum FP.Core.unitsDen
    rw [show (e - (e - 23)).toNat = 23 by omega, show (e - 23 - e).toNat = 0 by omega, Nat.pow_zero, Nat.mul_one]
    obtain ⟨c', q', k1, k2, k3, k4, k5⟩ := settle_some (c := FP.Core.nearest (c * 2 ^ 23) d) (q := e - 23) (near_ge (by omega) (by rw [Nat.mul_comm]; exact Nat.mul_le_mul_right _ w)) (near_le (by omega) (by omega)) (by omega)
    exact ⟨c', q', k1, k2, k3, by omega, by omega⟩
  · have hq : FP.Core.quantum FP.Core.b32 c d e = e - 24 := by
      unfold FP.Core.quantum
      rw [ld_two h1 h2 h3 h4, if_neg w, show FP.Core.b32.qmin = -149 from rfl, show ((FP.Core.b32.p : Nat) : Int) = 24 from rfl]
      omega
    rw [hq]
    unfold FP.Core.roundAt FP.Core.unitsNum FP.Core.unitsDen
    rw [show (e - (e - 24)).toNat = 24 by omega, show (e - 24 - e).toNat = 0 by omega, Nat.pow_zero, Nat.mul_one]
    obtain ⟨c', q', k1, k2, k3, k4, k5⟩ := settle_some (c := FP.Core.nearest (c * 2 ^ 24) d) (q := e - 24) (near_ge (by omega) (by omega)) (near_le (by omega) (by omega)) (by omega)
    exact ⟨c', q', k1, k2, k3, by omega, by omega⟩
theorem rr_half {c : Nat} {e : Int} (h1 : 2 ^ 23 ≤ c) (h2 : c < 2 ^ 24) (q1 : -149 ≤ e - 23) (q2 : e - 23 ≤ 104) : FP.Core.roundRatio FP.Core.b32 false c 8388608 e = .fin false c (e - 23) := by
  unfold FP.Core.roundRatio
  rw [if_neg (by omega)]
  have hq : FP.Core.quantum FP.Core.b32 c 8388608 e = e - 23 := by
    unfold FP.Core.quantum
    rw [ld_two h1 h2 (by decide) (by decide), if_pos h1, show FP.Core.b32.qmin = -149 from rfl, show ((FP.Core.b32.p : Nat) : Int) = 24 from rfl]
    omega
  rw [hq]
  unfold FP.Core.roundAt FP.Core.unitsNum FP.Core.unitsDen
  rw [show (e - (e - 23)).toNat = 23 by omega, show (e - 23 - e).toNat = 0 by omega, Nat.pow_zero, Nat.mul_one, near_ex (c := c) (d := 2 ^ 23) (by decide)]
  exact settle_ok h2 q2
/-- bits of a normal number -/
theorem dec_n {e t : Nat} (h1 : 1 ≤ e) (h2 : e ≤ 254) (ht : t < 8388608) : FP.Core.decode FP.Core.b32 (e * 8388608 + t) = .fin false (8388608 + t) (-149 + ((e : Int) - 1)) := by
  have hE : FP.Core.fieldE FP.Core.b32 (e * 8388608 + t) = e := by
    show (e * 8388608 + t) / 8388608 % 256 = e
    omega
  have hT : FP.Core.fieldT FP.Core.b32 (e * 8388608 + t) = t := by
    show (e * 8388608 + t) % 8388608 = t
    omega
  have hS : FP.Core.fieldS FP.Core.b32 (e * 8388608 + t) = false := by
    show ((e * 8388608 + t) / 8388608 / 256 % 2 == 1) = false
    rw [show (e * 8388608 + t) / 8388608 / 256 % 2 = 0 by omega]
    rfl
  unfold FP.Core.decode
  rw [hE, hT, hS, if_neg (show ¬ e = FP.Core.b32.exps - 1 from (show ¬ e = 255 by omega)), if_neg (by omega)]
  rfl
theorem enc_n {c : Nat} {q : Int} (h1 : 2 ^ 23 ≤ c) (q1 : -149 ≤ q) : FP.Core.encode FP.Core.b32 (.fin false c q) = (q + 150).toNat * 8388608 + (c - 8388608) := by
  unfold FP.Core.encode
  dsimp only
  rw [if_neg (show ¬ c < FP.Core.b32.tails from (show ¬ c < 8388608 by omega))]
  unfold FP.Core.assemble
  rw [show FP.Core.b32.qmin = -149 from rfl, show false.toNat * FP.Core.b32.exps = 0 from rfl, Nat.zero_add, show FP.Core.b32.tails = 8388608 from rfl]
  rw [show (q - -149).toNat + 1 = (q + 150).toNat by omega]
def px (e t : Nat) : UInt32 := UInt32.ofNat (e * 8388608 + t)
theorem px_n {e t : Nat} (h2 : e ≤ 254) (ht : t < 8388608) : (px e t).toNat = e * 8388608 + t := by
  unfold px
  rw [UInt32.toNat_ofNat']
  omega
theorem px_d {e t : Nat} (h1 : 1 ≤ e) (h2 : e ≤ 254) (ht : t < 8388608) : FP.Core.decode FP.Core.b32 (px e t).toNat = .fin false (8388608 + t) (-149 + ((e : Int) - 1)) := by
  rw [px_n h2 ht, dec_n h1 h2 ht]
theorem enc_px {c : Nat} {q : Int} (h1 : 2 ^ 23 ≤ c) (q1 : -149 ≤ q) : UInt32.ofNat (FP.Core.encode FP.Core.b32 (.fin false c q)) = px (q + 150).toNat (c - 8388608) := by
  rw [enc_n h1 q1]; rfl
theorem f2_d : FP.Core.decode FP.Core.b32 FP.fconst2.toNat = .fin false 8388608 (-22) := by decide
theorem f1_d : FP.Core.decode FP.Core.b32 FP.fconst1.toNat = .fin false 8388608 (-23) := by decide
theorem fk_d : FP.Core.decode FP.Core.b32 (1258291200 : UInt32).toNat = .fin false 8388608 0 := by decide
theorem f0_d : FP.Core.decode FP.Core.b32 FP.fconst0.toNat = .fin false 0 (-149) := by decide
theorem px_mul {e t : Nat} (h1 : 1 ≤ e) (h2 : e ≤ 253) (ht : t < 8388608) : FP.fmul (px e t) FP.fconst2 = px (e + 1) t := by
  show UInt32.ofNat (FP.Core.encode FP.Core.b32 (FP.Core.round FP.Core.b32 (FP.Core.exactProduct (FP.Core.decode FP.Core.b32 (px e t).toNat) (FP.Core.decode FP.Core.b32 FP.fconst2.toNat)))) = _
  rw [px_d h1 (by omega) ht, f2_d]
  show UInt32.ofNat (FP.Core.encode FP.Core.b32 (FP.Core.roundRatio FP.Core.b32 (false != false) ((8388608 + t) * 2 ^ 23) 1 (-149 + ((e : Int) - 1) + -22))) = _
  rw [show (false != false) = false from rfl, rr_mul (by omega) (by omega) (by omega) (by omega), enc_px (by omega) (by omega), show (-149 + ((e : Int) - 1) + -22 + ((23 : Nat) : Int) + 150).toNat = e + 1 by omega, show 8388608 + t - 8388608 = t by omega]
theorem px_div {e t : Nat} (h1 : 2 ≤ e) (h2 : e ≤ 254) (ht : t < 8388608) : FP.fdiv (px e t) FP.fconst2 = px (e - 1) t := by
  show UInt32.ofNat (FP.Core.encode FP.Core.b32 (FP.Core.quotient FP.Core.b32 (FP.Core.decode FP.Core.b32 (px e t).toNat) (FP.Core.decode FP.Core.b32 FP.fconst2.toNat))) = _
  rw [px_d (by omega) h2 ht, f2_d]
  show UInt32.ofNat (FP.Core.encode FP.Core.b32 (if 8388608 = 0 then (if 8388608 + t = 0 then FP.Core.Datum.nan else FP.Core.Datum.inf (false != false)) else FP.Core.roundRatio FP.Core.b32 (false != false) (8388608 + t) 8388608 (-149 + ((e : Int) - 1) - -22))) = _
  rw [if_neg (by decide), show (false != false) = false from rfl, rr_half (by omega) (by omega) (by omega) (by omega), enc_px (by omega) (by omega), show (-149 + ((e : Int) - 1) - -22 - 23 + 150).toNat = e - 1 by omega, show 8388608 + t - 8388608 = t by omega]
theorem sg (c : Nat) : FP.Core.signed false c = (c : Int) := rfl
theorem cmp_px {e t e2 : Nat} (h1 : 1 ≤ e) (h2 : e ≤ 254) (ht : t < 8388608) (g1 : 1 ≤ e2) (g2 : e2 ≤ 254) : (e < e2 → FP.fcmp (px e t) (px e2 0) = some .lt) ∧ (e2 ≤ e → FP.fcmp (px e t) (px e2 0) = some .gt ∨ FP.fcmp (px e t) (px e2 0) = some .eq) := by
  have hc : FP.fcmp (px e t) (px e2 0) = FP.Core.order (FP.Core.decode FP.Core.b32 (px e t).toNat) (FP.Core.decode FP.Core.b32 (px e2 0).toNat) := rfl
  rw [hc, px_d h1 h2 ht, px_d g1 g2 (by decide)]
  unfold FP.Core.order
  dsimp only
  rw [sg, sg]
  unfold FP.Core.inUnits
  constructor
  · intro h
    rw [show (-149 + ((e : Int) - 1) - min (-149 + ((e : Int) - 1)) (-149 + ((e2 : Int) - 1))).toNat = 0 by omega, show (-149 + ((e2 : Int) - 1) - min (-149 + ((e : Int) - 1)) (-149 + ((e2 : Int) - 1))).toNat = (e2 - e - 1) + 1 by omega, Nat.pow_zero, Nat.mul_one, Nat.pow_succ]
    have := Nat.two_pow_pos (e2 - e - 1)
    have : compare (((8388608 + t : Nat)) : Int) (((8388608 + 0) * (2 ^ (e2 - e - 1) * 2) : Nat) : Int) = .lt := by
      rw [Int.compare_eq_lt]
      omega
    rw [this]
  · intro h
    rw [show (-149 + ((e2 : Int) - 1) - min (-149 + ((e : Int) - 1)) (-149 + ((e2 : Int) - 1))).toNat = 0 by omega, show (-149 + ((e : Int) - 1) - min (-149 + ((e : Int) - 1)) (-149 + ((e2 : Int) - 1))).toNat = (e - e2) by omega, Nat.pow_zero, Nat.mul_one]
    have h3 := Nat.two_pow_pos (e - e2)
    have h4 : 8388608 + t ≤ (8388608 + t) * 2 ^ (e - e2) := Nat.le_mul_of_pos_right _ h3
    by_cases q : (8388608 + t) * 2 ^ (e - e2) = 8388608
    · right
      rw [q]
      decide
    · left
      have : compare (((8388608 + t) * 2 ^ (e - e2) : Nat) : Int) ((8388608 + 0 : Nat) : Int) = .gt := by
        rw [Int.compare_eq_gt]
        omega
      rw [this]
theorem cmp_0 {e t : Nat} (h1 : 1 ≤ e) (h2 : e ≤ 254) (ht : t < 8388608) : FP.fcmp (px e t) FP.fconst0 = some .gt := by
  have hc : FP.fcmp (px e t) FP.fconst0 = FP.Core.order (FP.Core.decode FP.Core.b32 (px e t).toNat) (FP.Core.decode FP.Core.b32 FP.fconst0.toNat) := rfl
  rw [hc, px_d h1 h2 ht, f0_d]
  unfold FP.Core.order
  dsimp only
  rw [sg, sg]
  unfold FP.Core.inUnits
  rw [show (-149 + ((e : Int) - 1) - min (-149 + ((e : Int) - 1)) (-149)).toNat = e - 1 by omega, Nat.zero_mul]
  have h3 := Nat.two_pow_pos (e - 1)
  have h4 : 8388608 + t ≤ (8388608 + t) * 2 ^ (e - 1) := Nat.le_mul_of_pos_right _ h3
  have : compare (((8388608 + t) * 2 ^ (e - 1) : Nat) : Int) ((0 : Nat) : Int) = .gt := by
    rw [Int.compare_eq_gt]
    omega
  rw [this]
theorem px_2 : FP.fconst2 = px 128 0 := by decide
theorem px_1 : FP.fconst1 = px 127 0 := by decide
theorem px_ok {e t : Nat} (h2 : e ≤ 254) (ht : t < 8388608) : px e t &&& 0x7fffffff ≤ 0x7f800000 := by
  rw [UInt32.le_iff_toNat_le, UInt32.toNat_and, px_n h2 ht]
  have : (e * 8388608 + t) &&& (0x7fffffff : UInt32).toNat ≤ e * 8388608 + t := Nat.and_le_left
  have h : (0x7f800000 : UInt32).toNat = 2139095040 := by decide
  rw [h]
  omega
theorem px_sub {t k : Nat} (hk : k ≤ 23) (h1 : 2 ^ 23 ≤ t * 2 ^ k) (h2 : t * 2 ^ k < 2 ^ 24) (ht : t < 8388608) : FP.fsub (px 127 t) FP.fconst1 = px (127 - k) (t * 2 ^ k - 8388608) := by
  show UInt32.ofNat (FP.Core.encode FP.Core.b32 (FP.Core.round FP.Core.b32 (FP.Core.exactSum (FP.Core.decode FP.Core.b32 (px 127 t).toNat) (FP.Core.negate (FP.Core.decode FP.Core.b32 FP.fconst1.toNat))))) = _
  rw [px_d (by omega) (by omega) ht, f1_d]
  have h0 : (-149 + (((127 : Nat) : Int) - 1)) = -23 := by decide
  rw [h0]
  have hu : FP.Core.sumUnits false (8388608 + t) (-23) true 8388608 (-23) (-23) = (t : Int) := by
    unfold FP.Core.sumUnits FP.Core.inUnits FP.Core.signed
    rw [show ((-23 : Int) - -23).toNat = 0 from rfl, Nat.pow_zero, Nat.mul_one, Nat.mul_one, if_neg (by decide), if_pos rfl]
    omega
  have hs : FP.Core.exactSum (.fin false (8388608 + t) (-23)) (FP.Core.negate (.fin false 8388608 (-23))) = .fin false t (-23) := by
    show FP.Core.Datum.fin (FP.Core.sumSign false true (FP.Core.sumUnits false (8388608 + t) (-23) true 8388608 (-23) (-23))) (FP.Core.sumUnits false (8388608 + t) (-23) true 8388608 (-23) (-23)).natAbs (-23) = _
    rw [hu]
    have : FP.Core.sumSign false true (t : Int) = false := by
      unfold FP.Core.sumSign
      split
      · rfl
      · exact decide_eq_false (by omega)
    rw [this, Int.natAbs_natCast]
  rw [hs]
  show UInt32.ofNat (FP.Core.encode FP.Core.b32 (FP.Core.roundRatio FP.Core.b32 false t 1 (-23))) = _
  rw [rr_low hk h1 h2 (by omega) (by omega), enc_px h1 (by omega), show (-23 - (k : Int) + 150).toNat = 127 - k by omega]
theorem px_sub0 : FP.fsub (px 127 0) FP.fconst1 = 0 := by decide
theorem px_sc {e u : Nat} (h1 : 1 ≤ e) (h2 : e ≤ 231) (ht : u < 8388608) : FP.fmul (px e u) 1258291200 = px (e + 23) u := by
  show UInt32.ofNat (FP.Core.encode FP.Core.b32 (FP.Core.round FP.Core.b32 (FP.Core.exactProduct (FP.Core.decode FP.Core.b32 (px e u).toNat) (FP.Core.decode FP.Core.b32 (1258291200 : UInt32).toNat)))) = _
  rw [px_d h1 (by omega) ht, fk_d]
  show UInt32.ofNat (FP.Core.encode FP.Core.b32 (FP.Core.roundRatio FP.Core.b32 (false != false) ((8388608 + u) * 2 ^ 23) 1 (-149 + ((e : Int) - 1) + 0))) = _
  rw [show (false != false) = false from rfl, rr_mul (by omega) (by omega) (by omega) (by omega), enc_px (by omega) (by omega), show (-149 + ((e : Int) - 1) + 0 + ((23 : Nat) : Int) + 150).toNat = e + 23 by omega, show 8388608 + u - 8388608 = u by omega]
theorem px_mk {t k : Nat} (hk : k ≤ 23) (h1 : 2 ^ 23 ≤ t * 2 ^ k) (h2 : t * 2 ^ k < 2 ^ 24) : FP.fmul (px (127 - k) (t * 2 ^ k - 8388608)) 1258291200 = px (150 - k) (t * 2 ^ k - 8388608) := by
  rw [px_sc (by omega) (by omega) (by omega), show 127 - k + 23 = 150 - k by omega]
theorem px_f2i {t k : Nat} (hk : k ≤ 23) (h1 : 2 ^ 23 ≤ t * 2 ^ k) (h2 : t * 2 ^ k < 2 ^ 24) : FP.f2i (px (150 - k) (t * 2 ^ k - 8388608)) = Int32.ofInt (t : Int) := by
  show FP.Core.toI (FP.Core.decode FP.Core.b32 (px (150 - k) (t * 2 ^ k - 8388608)).toNat) = _
  rw [px_d (by omega) (by omega) (by omega), show 8388608 + (t * 2 ^ k - 8388608) = t * 2 ^ k by omega, show -149 + (((150 - k : Nat) : Int) - 1) = -(k : Int) by omega]
  show Int32.ofInt (max (-2 ^ 31) (min (2 ^ 31 - 1) (FP.Core.truncate false (t * 2 ^ k) (-(k : Int))))) = _
  have : FP.Core.truncate false (t * 2 ^ k) (-(k : Int)) = (t : Int) := by
    unfold FP.Core.truncate
    rw [sg, show (-(k : Int)).toNat = 0 by omega, show (-(-(k : Int))).toNat = k by omega, Nat.pow_zero, Nat.mul_one, Nat.mul_div_cancel _ (Nat.two_pow_pos k)]
  rw [this]
  have ht : t ≤ t * 2 ^ k := Nat.le_mul_of_pos_right _ (Nat.two_pow_pos k)
  have e1 : max (-2 ^ 31) (min (2 ^ 31 - 1) (t : Int)) = (t : Int) := by omega
  rw [e1]
theorem px_z0 : FP.fmul 0 1258291200 = 0 := by decide
theorem px_z1 : FP.f2i 0 = 0 := by decide
/-- how far a number is from having 24 digits -/
theorem dig {t : Nat} (h0 : 0 < t) (h : t < 2 ^ 24) : ∃ k, k ≤ 23 ∧ 2 ^ 23 ≤ t * 2 ^ k ∧ t * 2 ^ k < 2 ^ 24 := by
  have a1 := (Nat.le_log2 (n := t) (k := t.log2) (by omega)).mp (Nat.le_refl _)
  have a2 := (Nat.log2_lt (n := t) (k := t.log2 + 1) (by omega)).mp (by omega)
  have a3 := (Nat.log2_lt (n := t) (k := 24) (by omega)).mpr h
  refine ⟨23 - t.log2, by omega, ?_, ?_⟩
  · have := Nat.mul_le_mul_right (2 ^ (23 - t.log2)) a1
    rw [← Nat.pow_add, show t.log2 + (23 - t.log2) = 23 by omega] at this
    exact this
  · have := Nat.mul_lt_mul_of_pos_right a2 (Nat.two_pow_pos (23 - t.log2))
    rw [← Nat.pow_add, show t.log2 + 1 + (23 - t.log2) = 24 by omega] at this
    exact this
theorem i2f_px {a k : Nat} (hk : k ≤ 23) (h1 : 2 ^ 23 ≤ a * 2 ^ k) (h2 : a * 2 ^ k < 2 ^ 24) (x : Int32) (hx : x.toInt = (a : Int)) : FP.i2f x = px (150 - k) (a * 2 ^ k - 8388608) := by
  show UInt32.ofNat (FP.Core.encode FP.Core.b32 (FP.Core.roundRatio FP.Core.b32 (decide (x.toInt < 0)) x.toInt.natAbs 1 0)) = _
  rw [hx, Int.natAbs_natCast, decide_eq_false (by omega), rr_low hk h1 h2 (by omega) (by omega), enc_px h1 (by omega), show (0 - (k : Int) + 150).toNat = 150 - k by omega]
theorem div_px {a k b l : Nat} (hk : k ≤ 23) (h1 : 2 ^ 23 ≤ a * 2 ^ k) (h2 : a * 2 ^ k < 2 ^ 24) (hl : l ≤ 23) (g1 : 2 ^ 23 ≤ b * 2 ^ l) (g2 : b * 2 ^ l < 2 ^ 24) : ∃ e t, 1 ≤ e ∧ e ≤ 254 ∧ t < 8388608 ∧ FP.fdiv (px (150 - k) (a * 2 ^ k - 8388608)) (px (150 - l) (b * 2 ^ l - 8388608)) = px e t := by
  have hd : FP.fdiv (px (150 - k) (a * 2 ^ k - 8388608)) (px (150 - l) (b * 2 ^ l - 8388608)) = UInt32.ofNat (FP.Core.encode FP.Core.b32 (FP.Core.quotient FP.Core.b32 (FP.Core.decode FP.Core.b32 (px (150 - k) (a * 2 ^ k - 8388608)).toNat) (FP.Core.decode FP.Core.b32 (px (150 - l) (b * 2 ^ l - 8388608)).toNat))) := rfl
  rw [px_d (by omega) (by omega) (by omega), px_d (by omega) (by omega) (by omega)] at hd
  unfold FP.Core.quotient at hd
  dsimp only at hd
  rw [if_neg (by omega), show (false != false) = false from rfl] at hd
  obtain ⟨c', q', k1, k2, k3, k4, k5⟩ := rr_two (c := 8388608 + (a * 2 ^ k - 8388608)) (d := 8388608 + (b * 2 ^ l - 8388608)) (e := -149 + (((150 - k : Nat) : Int) - 1) - (-149 + (((150 - l : Nat) : Int) - 1))) (by omega) (by omega) (by omega) (by omega) (by omega) (by omega)
  rw [k1, enc_px k2 k4] at hd
  exact ⟨_, _, by omega, by omega, by omega, hd⟩
theorem div_0 {b l : Nat} (hl : l ≤ 23) (g1 : 2 ^ 23 ≤ b * 2 ^ l) (g2 : b * 2 ^ l < 2 ^ 24) : FP.fdiv 0 (px (150 - l) (b * 2 ^ l - 8388608)) = 0 := by
  have hd : FP.fdiv 0 (px (150 - l) (b * 2 ^ l - 8388608)) = UInt32.ofNat (FP.Core.encode FP.Core.b32 (FP.Core.quotient FP.Core.b32 (FP.Core.decode FP.Core.b32 (0 : UInt32).toNat) (FP.Core.decode FP.Core.b32 (px (150 - l) (b * 2 ^ l - 8388608)).toNat))) := rfl
  rw [show FP.Core.decode FP.Core.b32 (0 : UInt32).toNat = .fin false 0 (-149) from f0_d, px_d (by omega) (by omega) (by omega)] at hd
  unfold FP.Core.quotient at hd
  dsimp only at hd
  rw [if_neg (by omega), show (false != false) = false from rfl] at hd
  rw [hd]
  unfold FP.Core.roundRatio
  rw [if_pos rfl]
  decide
theorem i2f_0 : FP.i2f 0 = 0 := by decide
/-! the number's bits -/
theorem px_fix {x y : UInt32} (h : x = y) (hy : y &&& 0x7fffffff ≤ 0x7f800000) : (if x &&& 0x7fffffff ≤ 0x7f800000 then some x else none) = some y := by
  subst h
  exact if_pos hy
theorem divA_2 {e t : Nat} (h1 : 2 ≤ e) (h2 : e ≤ 254) (ht : t < 8388608) : fdivA (px e t) FP.fconst2 = some (px (e - 1) t) := px_fix (px_div h1 h2 ht) (px_ok (by omega) ht)
theorem mulA_2 {e t : Nat} (h1 : 1 ≤ e) (h2 : e ≤ 253) (ht : t < 8388608) : fmulA (px e t) FP.fconst2 = some (px (e + 1) t) := px_fix (px_mul h1 h2 ht) (px_ok (by omega) ht)
theorem ge_cmp {e t e2 : Nat} (h1 : 1 ≤ e) (h2 : e ≤ 254) (ht : t < 8388608) (g1 : 1 ≤ e2) (g2 : e2 ≤ 254) (h : e2 ≤ e) (op : CmpOp) : Op.cmpValue (FP.fcmp (px e t) (px e2 0)) op = 1 ∨ Op.cmpValue (FP.fcmp (px e t) (px e2 0)) op = 0 := by
  rcases (cmp_px h1 h2 ht g1 g2).2 h with q | q
  · rw [q]; exact Or.inl rfl
  · rw [q]; exact Or.inr rfl
theorem lt_cmp {e t e2 : Nat} (h1 : 1 ≤ e) (h2 : e ≤ 254) (ht : t < 8388608) (g1 : 1 ≤ e2) (g2 : e2 ≤ 254) (h : e < e2) (op : CmpOp) : Op.cmpValue (FP.fcmp (px e t) (px e2 0)) op = -1 := by
  rw [(cmp_px h1 h2 ht g1 g2).1 h]; rfl
theorem nI_m {n : Nat} (h : 1 ≤ n) : nI n + -1 = nI (n - 1) := by
  have := nI_add (n - 1) 1
  rw [show n - 1 + 1 = n by omega] at this
  rw [← this]
  show nI (n - 1) + 1 + -1 = nI (n - 1)
  rw [Int32.add_assoc, show (1 : Int32) + -1 = 0 from rfl, Int32.add_zero]
theorem down_px {e t : Nat} (h1 : 127 ≤ e) (h2 : e ≤ 254) (ht : t < 8388608) : itr (SX4_bitsOf_13) FU (px e t, 127) = some (px 127 t, nI e) := by
  refine itr_for (step := SX4_bitsOf_13) (e - 127) (fun k => (px (e - k) t, nI (127 + k))) (px 127 t, nI e) (fun k hk => ?_) ?_ FU (FU_lt (by omega))
  · unfold SX4_bitsOf_13
    dsimp only
    rw [px_2, if_neg (by
      rcases ge_cmp (e := e - k) (t := t) (e2 := 128) (by omega) (by omega) ht (by decide) (by decide) (by omega) .l with q | q
      · rw [q]; decide
      · rw [q]; decide), if_neg (show ¬ (254 : Int32) ≤ nI (127 + k) from nI_ge (b := 254) (by omega) (by omega)), ← px_2, divA_2 (by omega) (by omega) ht, Option.bind_some, nI_1]
    rfl
  · unfold SX4_bitsOf_13
    dsimp only
    rw [px_2, show e - (e - 127) = 127 by omega, show 127 + (e - 127) = e by omega, lt_cmp (by decide) (by decide) ht (by decide) (by decide) (by decide), if_pos (by decide)]
theorem stay_px {e t : Nat} (h1 : 1 ≤ e) (h2 : e < 128) (ht : t < 8388608) (k : Int32) : itr (SX4_bitsOf_13) FU (px e t, k) = some (px e t, k) := by
  refine itr_r (n := 3999) (step := SX4_bitsOf_13) ?_
  unfold SX4_bitsOf_13
  dsimp only
  rw [px_2, lt_cmp h1 (by omega) ht (by decide) (by decide) h2, if_pos (by decide)]
theorem up_px {e t : Nat} (h1 : 1 ≤ e) (h2 : e ≤ 127) (ht : t < 8388608) : itr (SX4_bitsOf_36) FU (px e t, 127) = some (px 127 t, nI e) := by
  refine itr_for (step := SX4_bitsOf_36) (127 - e) (fun k => (px (e + k) t, nI (127 - k))) (px 127 t, nI e) (fun k hk => ?_) ?_ FU (FU_lt (by omega))
  · unfold SX4_bitsOf_36
    dsimp only
    rw [px_1, lt_cmp (e := e + k) (by omega) (by omega) ht (by decide) (by decide) (by omega), if_neg (by decide), if_neg (show ¬ nI (127 - k) ≤ (1 : Int32) from nI_ge (a := 1) (by omega) (by omega)), mulA_2 (by omega) (by omega) ht, Option.bind_some, nI_m (by omega)]
    rfl
  · unfold SX4_bitsOf_36
    dsimp only
    rw [px_1, show e + (127 - e) = 127 by omega, show 127 - (127 - e) = e by omega, if_pos (by
      rcases ge_cmp (e := 127) (t := t) (e2 := 127) (by omega) (by omega) ht (by decide) (by decide) (by omega) .g with q | q
      · rw [q]; decide
      · rw [q]; decide)]
theorem stop_px {t : Nat} (ht : t < 8388608) (k : Int32) : itr (SX4_bitsOf_36) FU (px 127 t, k) = some (px 127 t, k) := by
  refine itr_r (n := 3999) (step := SX4_bitsOf_36) ?_
  unfold SX4_bitsOf_36
  dsimp only
  rw [px_1, if_pos (by
      rcases ge_cmp (e := 127) (t := t) (e2 := 127) (by omega) (by omega) ht (by decide) (by decide) (by omega) .g with q | q
      · rw [q]; decide
      · rw [q]; decide)]
theorem frac_px {t : Nat} (ht : t < 8388608) : ∃ x y, fsubA (px 127 t) FP.fconst1 = some x ∧ fmulA x 1258291200 = some y ∧ FP.f2i y = nI t := by
  rcases Nat.eq_zero_or_pos t with z | z
  · subst z
    exact ⟨0, 0, px_fix px_sub0 (by decide), px_fix px_z0 (by decide), px_z1⟩
  · obtain ⟨k, k1, k2, k3⟩ := dig z (by omega)
    refine ⟨_, _, px_fix (px_sub k1 k2 k3 ht) (px_ok (by omega) (by omega)), px_fix (px_mk k1 k2 k3) (px_ok (by omega) (by omega)), ?_⟩
    rw [px_f2i k1 k2 k3]
    rfl
theorem bits_px {e t : Nat} (h1 : 1 ≤ e) (h2 : e ≤ 254) (ht : t < 8388608) : MX4_bitsOf (px e t) = some (nI (e * 8388608 + t)) := by
  unfold MX4_bitsOf
  have hp : ∃ j4, itr (SX4_bitsOf_13) FU (px e t, 127) = some j4 ∧ itr (SX4_bitsOf_36) FU (j4.1, j4.2) = some (px 127 t, nI e) := by
    by_cases q : 127 ≤ e
    · exact ⟨_, down_px q h2 ht, stop_px ht _⟩
    · exact ⟨_, stay_px h1 (by omega) ht _, up_px h1 (by omega) ht⟩
  obtain ⟨j4, p1, p2⟩ := hp
  obtain ⟨x, y, p3, p4, p5⟩ := frac_px ht
  rw [cmp_0 h1 h2 ht, if_pos (by decide), p1, Option.bind_some, p2, Option.bind_some, p3, Option.bind_some, p4, Option.bind_some, p5, pk_shlN (23 &&& 31) 23 (by decide) (by omega), nI_add]
theorem bits_z : MX4_bitsOf 0 = some 0 := by
  unfold MX4_bitsOf
  rw [if_neg (by decide)]
section FLO
variable {a : Abs} {f s : Nat → Int32}
end FLO
