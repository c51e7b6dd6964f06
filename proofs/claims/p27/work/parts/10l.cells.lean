/-! acts: a cell is written -/
/-- what an act leaves: all as it was, or one change more -/
def After (N : Nat) (a : Abs) (H : List Abs) (f : Nat → Int32) (io im : Int32) (gs : Nat → Nat → Int32) : Prop := ∃ a' H', LInv (N + 60) a' H' f io im gs ∧ ((a' = a ∧ H' = H) ∨ H' = pushH H a)
section CELLS
variable {a : Abs} {f : Nat → Int32} {io im : Int32} {gs : Nat → Nat → Int32} {H : List Abs} {N : Nat}
theorem LInv.mono {M : Nat} (h : LInv N a H f io im gs) (hN : N ≤ M) : LInv M a H f io im gs := ⟨h.1, h.2.1.mono hN, h.2.2.1, fun b hb => (h.2.2.2 b hb).mono hN⟩
theorem aft {o : Int32 × Abs} (ok : okO N a o) (h : LInv (N + 1) o.2 (nxH H a o.1) f io im gs) : After N a H f io im gs := by
  refine ⟨o.2, nxH H a o.1, h.mono (by omega), ?_⟩
  rcases ok with ⟨e, e2⟩ | ⟨⟨k, k1, k2⟩, e⟩
  · left
    refine ⟨e2, ?_⟩
    unfold nxH
    rcases e with e | e | e <;> rw [e] <;> exact if_neg (by decide)
  · right
    unfold nxH
    rw [k2, if_pos (nI_pos' (by omega))]
theorem ev_odd (c : Nat) (hc : c < 8) : (nI c - nI c / 2 * 2) = nI (c % 2) := by
  rw [show (2 : Int32) = nI 2 from rfl, pk_rem (by omega) (by decide) (by decide)]
theorem hold_row (h : RepC a f) (hi : aInv a) {r c : Nat} (hr : r < aG a 0) (hc : c < 8) : ((((if (nI c - nI c / 2 * 2) = 0 then some 2 else some 3) : Option Int32)).bind fun j106 => (MX5_row f (nI r) j106).bind fun v110 => some v110) = some (nI (aHold a r c)) := by
  rw [ev_odd c hc]
  unfold aHold
  by_cases q : c % 2 = 0
  · rw [q, if_pos (show nI 0 = 0 from rfl), if_pos rfl, Option.bind_some, rq2 h hi hr]
    rfl
  · rw [if_neg (nI_ne0 (by omega) (by omega)), if_neg q, Option.bind_some, rq3 h hi hr]
    rfl
theorem cells_ok (hI : LInv N a H f io im gs) (le x : Int32) : ∃ z, ML_cells f io im gs le x = some z ∧ (z.1 = 1 ∧ After N a H z.2.1 z.2.2.1 z.2.2.2.1 z.2.2.2.2) := by
  have h := hI.1
  have hi := hI.2.1.1
  have hn := hi.1
  unfold ML_cells
  refine xb (kq0 h im le) ?_
  obtain ⟨r, hr, er⟩ := low_ok x (N := aG a 0 + 1) (by omega) (by omega)
  rw [← nI_1] at er
  refine xb er ?_
  obtain ⟨w7, _, e7⟩ := low_ok (x >>> (18 &&& 31)) (N := 6) (by decide) (by decide)
  refine xb e7 ?_
  have hj10 : ∃ C, 0 < C ∧ C ≤ 9 ∧ ((if nI w7 = 0 then some 9 else some 8) : Option Int32) = some (nI C) := by
    by_cases q : nI w7 = 0
    · exact ⟨9, by decide, by decide, if_pos q⟩
    · exact ⟨8, by decide, by decide, if_neg q⟩
  obtain ⟨C, C1, C2, C3⟩ := hj10
  refine xb C3 ?_
  obtain ⟨c, hc, ec⟩ := low_ok (x >>> (4 &&& 31)) (N := C) C1 (by omega)
  refine xb ec ?_
  obtain ⟨w17, _, e17⟩ := low_ok (x >>> (17 &&& 31)) (N := 3) (by decide) (by decide)
  refine xb e17 ?_
  have hj20 : ∃ V, 0 < V ∧ V ≤ 1001 ∧ ((if nI w17 = 0 then some 1001 else some 5) : Option Int32) = some (nI V) := by
    by_cases q : nI w17 = 0
    · exact ⟨1001, by decide, by decide, if_pos q⟩
    · exact ⟨5, by decide, by decide, if_neg q⟩
  obtain ⟨V, V1, V2, V3⟩ := hj20
  refine xb V3 ?_
  obtain ⟨v, hv, ev⟩ := low_ok (x >>> (7 &&& 31)) (N := V) V1 (by omega)
  refine xb ev ?_
  obtain ⟨z, z1, z2, z3⟩ := mt_write hI (r := r) (c := c) (v := v) (by omega) (by omega) (by omega)
  have ok := ok_write hI.2.1 r c v
  have e13 := kq13 z3.1 z.2.2.2.1 le
  by_cases bad : r = aG a 0 ∨ c = 8 ∨ v = 1000
  · have hb : ((if nI r = nI (aG a 0) then some 1 else (if nI c = 8 then some 1 else (if nI v = 1000 then some 1 else some 0))) : Option Int32) = some 1 := by
      by_cases q1 : r = aG a 0
      · rw [if_pos (by rw [q1])]
      · rw [if_neg (fun y => q1 ((nI_eq (by omega) (by omega)).mp y))]
        by_cases q2 : c = 8
        · rw [if_pos (by rw [q2]; rfl)]
        · have q3 : v = 1000 := by omega
          rw [if_neg (show ¬ nI c = 8 from fun y => q2 ((nI_eq (b := 8) (by omega) (by decide)).mp y)), if_pos (by rw [q3]; rfl)]
    have ho : oWrite a r c v = (-1000001, a) := by
      unfold oWrite
      rw [if_neg (by omega)]
    refine xb hb ?_
    refine xj (fun _ => True) ?_ (fun j31 _ => ?_)
    · by_cases q : nI (aG a 0) ≤ nI r
      · exact ⟨0, if_pos q, trivial⟩
      · rw [if_neg q]
        have hr' : r < aG a 0 := by
          rcases Nat.lt_or_ge r (aG a 0) with y | y
          · exact y
          · exact absurd (nI_le y (by omega)) q
        rw [rq1 h hi hr', Option.bind_some]
        by_cases q2 : nI (aF a 1 r) = 1
        · exact ⟨1, if_pos q2, trivial⟩
        · exact ⟨0, if_neg q2, trivial⟩
    refine xb (if_neg one_n0) ?_
    refine xb (kq13 h im le) ?_
    refine xb (if_neg one_n0) ?_
    refine xb z1 ?_
    rw [ho] at z2 z3 e13
    refine xt z2 (xb e13 (xb (v := 0) (if_neg (by decide)) (xt (Int32.add_zero _).symm (xt (by decide) (xs ⟨rfl, aft (o := (-1000001, a)) ok1 z3⟩)))))
  · have hr' : r < aG a 0 := by omega
    have hc' : c < 8 := by omega
    have hv' : v ≤ 999 := by omega
    have hb : ((if nI r = nI (aG a 0) then some 1 else (if nI c = 8 then some 1 else (if nI v = 1000 then some 1 else some 0))) : Option Int32) = some 0 := by
      rw [if_neg (show ¬ nI r = nI (aG a 0) from fun y => by
        have := (nI_eq (by omega) (by omega)).mp y
        omega), if_neg (show ¬ nI c = 8 from fun y => by
        have := (nI_eq (b := 8) (by omega) (by decide)).mp y
        omega), if_neg (show ¬ nI v = 1000 from fun y => by
        have := (nI_eq (b := 1000) (by omega) (by decide)).mp y
        omega)]
    refine xb hb ?_
    have hhold := hold_row h hi hr' hc'
    have hH := inv_hold hi r c
    rcases inv_live hi hr' with l | l
    · have ho : oWrite a r c v = (-1000002, a) := by
        unfold oWrite
        rw [if_pos ⟨hr', hc', hv'⟩, if_neg (by omega)]
      refine xb (v := 0) (by
        rw [if_neg (nI_ge hr' (by omega)), rq1 h hi hr', Option.bind_some, l, if_neg (show ¬ nI 0 = 1 by decide)]) ?_
      refine xb ((if_pos rfl).trans hhold) ?_
      refine xb (kq13 h im le) ?_
      refine xb (v := -1000002) (by rw [if_pos rfl, if_pos rfl]) ?_
      refine xb z1 ?_
      rw [ho] at z2 z3 e13
      refine xt z2 (xb e13 (xb (v := 0) (if_neg (by decide)) (xt (Int32.add_zero _).symm (xt (by decide) (xs ⟨rfl, aft (o := (-1000002, a)) ok2 z3⟩)))))
    · have ho : oWrite a r c v = (nI (aF a 1 (aHold a r c)), (aWrite a r c v).2) := by
        unfold oWrite
        rw [if_pos ⟨hr', hc', hv'⟩, if_pos l, write_1 hi]
      refine xb (v := 1) (by
        rw [if_neg (nI_ge hr' (by omega)), rq1 h hi hr', Option.bind_some, l, if_pos (show nI 1 = 1 from rfl)]) ?_
      refine xb ((if_pos rfl).trans hhold) ?_
      refine xb (kq13 h im le) ?_
      refine xb (v := nI (aF a 1 (aHold a r c))) (by rw [if_pos rfl, if_neg one_n0, rq1 h hi hH]; rfl) ?_
      refine xb z1 ?_
      rw [ho] at z2 z3 e13 ok
      have hR := z3.1
      have hi2 := z3.2.1.1
      have hr2 : r < aG (aWrite a r c v).2 0 := by rw [write_G]; exact hr'
      have hA : After N a H z.2.1 z.2.2.1 z.2.2.2.1 z.2.2.2.2 := aft ok z3
      have c0 : cellV (aWrite a r c v).2 r c = nI v := by
        unfold cellV
        rw [write_F, if_pos l, write_V, if_neg (by omega), Nat.add_sub_cancel]
      have k0 := ez0 hR hi2 hr2 hc'
      have k1 := ez1 hR hi2 hr2 hc'
      rw [c0] at k0
      rw [write_W] at k1
      have hw9 := write_C9 a r c v
      rw [write_1 hi] at hw9
      rcases inv_live hi hH with y | y
      · rw [y] at hw9 z2 ⊢
        refine xt z2 (xb e13 (xb (v := 0) (if_neg (by decide)) (xt (by rw [hw9]; rfl) (xf (by decide) (xb k0 (xt rfl (xb k1 (xt rfl (xt rfl (xs ⟨rfl, hA⟩))))))))))
      · have hh := ez2 hR hi2 hr2 hc' (write_heard hi y)
        rw [y] at hw9 z2 ⊢
        refine xt z2 (xb e13 (xb (v := 1) (if_pos rfl) (xt (by rw [hw9]; rfl) (xf (by decide) (xb k0 (xt rfl (xb k1 (xt rfl (xf (by decide) (xb hh.1 (xt rfl (xb hh.2 (xt ?_ (xs ⟨rfl, hA⟩))))))))))))))
        rw [write_G, Nat.sub_self]
        rfl
end CELLS
