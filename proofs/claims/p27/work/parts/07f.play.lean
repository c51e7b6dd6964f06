/-! the text's run, play, fault, type, clearText, count -/
def kC (c q p : Int32) (nb : Nat → Int32) (fp fr fc : Int32) (v : Int32 × (Nat → Int32)) : Option ((Int32 × Int32 × (Nat → Int32) × (Nat → Int32)) ⊕ ((Int32 × Int32 × (Nat → Int32) × (Nat → Int32)) ⊕ (Int32 × Int32 × Int32 × Int32 × Int32 × (Nat → Int32) × (Nat → Int32)))) := if 0 ≤ v.1 then some (.inl ((c + 1), q, nb, v.2)) else (MX2_foundFault fp fr fc p 2 v.1).bind fun v46 => some (.inr (.inr (v46.1, q, v46.2.1, v46.2.2.1, v46.2.2.2, nb, v.2)))
section PLAY
variable {n : Nat} {sg tx : Nat → Int32} {fp fr fc : Int32}
theorem C_order {p c : Nat} {nb f : Nat → Int32} {z : Int32 × Int32 × (Nat → Int32)} (hn : n ≤ 60) (hp : p < n) (hc : c ≤ p) (hz : MX2_readOrder (nI n) (nI p) sg nb = some z) (h1 : z.1 = 1) : SX2_run_7 (nI n) sg fp fr fc (nI c, nI p, nb, f) = (swC (tAt n sg p) z.2.2 f).bind (kC (nI c) z.2.1 (nI p) z.2.2 fp fr fc) := by
  unfold SX2_run_7 swC
  dsimp only
  rw [if_neg (nI_ge hp (by omega)), if_neg (show ¬ (60 : Int32) ≤ nI c from nI_ge (b := 60) (by omega) (by omega)), hz, Option.bind_some, h1, if_neg one_n0, C_sign hn (by omega), Option.bind_some]
  by_cases e1 : tAt n sg p = 97
  · rw [if_pos e1, if_pos e1, Option.bind_assoc]
    rfl
  rw [if_neg e1, if_neg e1]
  by_cases e2 : tAt n sg p = 108
  · rw [if_pos e2, if_pos e2, Option.bind_assoc]
    rfl
  rw [if_neg e2, if_neg e2]
  by_cases e3 : tAt n sg p = 109
  · rw [if_pos e3, if_pos e3, Option.bind_assoc]
    rfl
  rw [if_neg e3, if_neg e3]
  by_cases e4 : tAt n sg p = 115
  · rw [if_pos e4, if_pos e4, Option.bind_assoc]
    cases ldA 3 z.2.2 0 with
    | none => rfl
    | some v =>
      rw [Option.bind_some, Option.bind_some, Option.bind_assoc]
      rfl
  rw [if_neg e4, if_neg e4]
  by_cases e5 : tAt n sg p = 119
  · rw [if_pos e5, if_pos e5, Option.bind_assoc]
    cases ldA 3 z.2.2 0 with
    | none => rfl
    | some v =>
      rw [Option.bind_some, Option.bind_some, Option.bind_assoc]
      cases ldA 3 z.2.2 1 with
      | none => rfl
      | some w =>
        rw [Option.bind_some, Option.bind_some, Option.bind_assoc]
        rfl
  rw [if_neg e5, if_neg e5, Option.bind_assoc]
  rfl
end PLAY
