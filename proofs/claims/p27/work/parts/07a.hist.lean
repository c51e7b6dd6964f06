/-! the states before: a ring of five against a row of four -/
def pushH (H : List Abs) (a : Abs) : List Abs := if H.length = 4 then H.drop 1 ++ [a] else H ++ [a]
section HIST
variable {a : Abs} {f s pa : Nat → Int32} {kn io im : Int32} {gs : Nat → Nat → Int32} {H : List Abs}
theorem state_at (o m : Nat) (ho : o < 2 ^ 20) (hm : m < 2 ^ 20) : MX0_stateAt (nI o) (nI m) = some ((o + m) % 5) := by
  unfold MX0_stateAt
  rw [show (5 : Int32) = nI 5 from rfl, nI_add, pk_rem (by omega) (by decide) (by decide), if_neg (show ¬ nI ((o + m) % 5) < 0 from nI_pos (by omega))]
  unfold ixA
  rw [inb_nI (Nat.mod_lt _ (by decide)) (by decide), if_pos rfl]
  have h : (nI ((o + m) % 5)).toNatClampNeg = (o + m) % 5 := by
    show (nI ((o + m) % 5)).toInt.toNat = _
    rw [nI_toInt (by omega)]
    rfl
  rw [h]
theorem ix703 (k : Nat) : (703 : Int32) * nI k = nI (703 * k) := by
  show nI 703 * nI k = nI (703 * k)
  exact (Int32.ofNat_mul 703 k).symm
theorem mod5_ne {o k m : Nat} (h1 : k < m) (h2 : m < k + 5) : ¬ (o + k) % 5 = (o + m) % 5 := by omega
end HIST
