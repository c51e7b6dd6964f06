/-! acts: the others -/
def ActQ (N : Nat) (a : Abs) (H : List Abs) (z : Int32 × (Nat → Int32) × (Nat → Int32) × Int32 × Int32 × (Nat → Nat → Int32) × Int32 × Int32 × Int32 × Int32 × Int32 × (Nat → Int32) × (Nat → Int32)) : Prop := z.1 = 1 ∧ After N a H z.2.1 z.2.2.2.1 z.2.2.2.2.1 z.2.2.2.2.2.1 ∧ ∃ n', n' ≤ 60 ∧ z.2.2.2.2.2.2.1 = nI n'
/-- which row is named: none, a lost one, one that lives -/
def Who (a : Abs) (r : Nat) (j10 j14 : Int32) : Prop := (r = aG a 0 ∧ j10 = 1 ∧ j14 = 0) ∨ (r < aG a 0 ∧ aF a 1 r = 0 ∧ j10 = 0 ∧ j14 = 0) ∨ (r < aG a 0 ∧ aF a 1 r = 1 ∧ j10 = 0 ∧ j14 = 1)
section ACTS
variable {a : Abs} {f : Nat → Int32} {io im : Int32} {gs : Nat → Nat → Int32} {H : List Abs} {N n0 : Nat}
theorem afq {o : Int32 × Abs} (ok : okO N a o) {f' : Nat → Int32} {io' im' : Int32} {gs' : Nat → Nat → Int32} (h : LInv (N + 1) o.2 (nxH H a o.1) f' io' im' gs') (h0 : n0 ≤ 60) (tr : Nat → Int32) (at0 fp fr fc : Int32) (sg nb : Nat → Int32) : ActQ N a H (1, f', tr, io', im', gs', nI n0, at0, fp, fr, fc, sg, nb) := ⟨rfl, aft ok h, n0, h0, rfl⟩
theorem i8sub {b w : Nat} (h : b + w ≤ 8) : (8 - nI b) - nI w = nI (8 - b - w) := by
  rw [show (8 : Int32) = nI 8 from rfl, pk_sub (by omega), pk_sub (by omega)]

set_option maxHeartbeats 1000000 in
theorem act_lose (hI : LInv N a H f io im gs) (h0 : n0 ≤ 60) (tr : Nat → Int32) (at0 fp fr fc : Int32) (sg nb : Nat → Int32) {r : Nat} {j10 j14 : Int32} (hw : Who a r j10 j14) : ∃ z, ((((if j14 = 0 then some 0 else (MX5_row f (nI r) 7).bind fun v501 => some v501) : Option Int32)).bind fun j447 => (((if j14 = 0 then some 0 else (MX5_row f (nI r) 8).bind fun v495 => some v495) : Option Int32)).bind fun j451 => (MX5_lose f io im gs (nI r)).bind fun v455 => (((if j10 = 0 then (if j14 = 0 then some (-1000002) else some j447) else some (-1000001)) : Option Int32)).bind fun j458 => (if v455.1 = j458 then (if j14 = 0 then some (1, v455.2.1, tr, v455.2.2.1, v455.2.2.2.1, v455.2.2.2.2, (nI n0), at0, fp, fr, fc, sg, nb) else (MX5_row v455.2.1 (nI r) 1).bind fun v467 => (if v467 = 0 then (MX5_row v455.2.1 (nI r) 8).bind fun v472 => (if v472 = (j451 + 1) then (MX5_would v455.2.1 (nI r) 0).bind fun v477 => (if v477 = j447 then some (1, v455.2.1, tr, v455.2.2.1, v455.2.2.2.1, v455.2.2.2.2, (nI n0), at0, fp, fr, fc, sg, nb) else some (0, v455.2.1, tr, v455.2.2.1, v455.2.2.2.1, v455.2.2.2.2, (nI n0), at0, fp, fr, fc, sg, nb)) else some (0, v455.2.1, tr, v455.2.2.1, v455.2.2.2.1, v455.2.2.2.2, (nI n0), at0, fp, fr, fc, sg, nb)) else some (0, v455.2.1, tr, v455.2.2.1, v455.2.2.2.1, v455.2.2.2.2, (nI n0), at0, fp, fr, fc, sg, nb))) else some (0, v455.2.1, tr, v455.2.2.1, v455.2.2.2.1, v455.2.2.2.2, (nI n0), at0, fp, fr, fc, sg, nb)) : Option (Int32 × (Nat → Int32) × (Nat → Int32) × Int32 × Int32 × (Nat → Nat → Int32) × Int32 × Int32 × Int32 × Int32 × Int32 × (Nat → Int32) × (Nat → Int32))) = some z ∧ ActQ N a H z := by
  have h := hI.1
  have hi := hI.2.1.1
  have hn := hi.1
  have ok := ok_lose hI.2.1 r
  obtain ⟨z, z1, z2, z3⟩ := mt_lose hI (r := r) (by rcases hw with ⟨h, _⟩ | ⟨h, _⟩ | ⟨h, _⟩ <;> omega)
  have fin := afq ok z3 h0 tr at0 fp fr fc sg nb
  rcases hw with ⟨hr, rfl, rfl⟩ | ⟨hr, hl, rfl, rfl⟩ | ⟨hr, hl, rfl, rfl⟩
  · have ho : oLose a r = (-1000001, a) := by unfold oLose; rw [if_neg (by omega)]
    rw [ho] at z2
    exact xb (if_pos rfl) (xb (if_pos rfl) (xb z1 (xb (if_neg one_n0) (xt z2 (xt rfl (xs fin))))))
  · have ho : oLose a r = (-1000002, a) := by unfold oLose; rw [if_pos hr, if_neg (by omega)]
    rw [ho] at z2
    exact xb (if_pos rfl) (xb (if_pos rfl) (xb z1 (xb ((if_pos rfl).trans (if_pos rfl)) (xt z2 (xt rfl (xs fin))))))
  · have ho : oLose a r = (nI (aBack a r), (aLose a r).2) := by unfold oLose; rw [if_pos hr, if_pos hl]; rfl
    rw [ho] at z2 z3
    have hr2 : r < aG (aLose a r).2 0 := hr
    have hi2 := z3.2.1.1
    have l2 : aF (aLose a r).2 1 r = 0 := by rw [lose_F1, if_pos rfl]
    have k1 := rq1 z3.1 hi2 hr2
    have k8 := rq8 z3.1 hi2 hr2
    have k0 := dq0 z3.1 hi2 hr2 l2
    rw [l2] at k1
    rw [lose_D, if_pos rfl] at k8
    rw [lose_back hi hr] at k0
    refine xb (v := nI (aBack a r)) (by rw [if_neg one_n0, rq7 h hi hr]; rfl) ?_
    refine xb (v := aD a 2 r) (by rw [if_neg one_n0, rq8 h hi hr]; rfl) ?_
    exact xb z1 (xb ((if_pos rfl).trans (if_neg one_n0)) (xt z2 (xf one_n0 (xb k1 (xt rfl (xb k8 (xt rfl (xb k0 (xt rfl (xs fin))))))))))
set_option maxHeartbeats 1000000 in
theorem act_mend (hI : LInv N a H f io im gs) (h0 : n0 ≤ 60) (tr : Nat → Int32) (at0 fp fr fc : Int32) (sg nb : Nat → Int32) {r : Nat} {j10 j14 : Int32} (hw : Who a r j10 j14) : ∃ z, ((((if j10 = 0 then (if j14 = 0 then (MX5_would f (nI r) 0).bind fun v441 => some v441 else some 0) else some 0) : Option Int32)).bind fun j362 => (((if j10 = 0 then (if j14 = 0 then (MX5_would f (nI r) 1).bind fun v432 => some v432 else some 0) else some 0) : Option Int32)).bind fun j366 => (MX5_count f im (nI n0) 11).bind fun v370 => (MX5_count f im (nI n0) 12).bind fun v373 => (MX5_mend f io im gs (nI r)).bind fun v376 => (((if j10 = 0 then (if j14 = 0 then some j362 else some (-1000002)) else some (-1000001)) : Option Int32)).bind fun j379 => (if v376.1 = j379 then (MX5_count v376.2.1 v376.2.2.2.1 (nI n0) 11).bind fun v385 => (if v385 = (v370 + j362) then (MX5_count v376.2.1 v376.2.2.2.1 (nI n0) 12).bind fun v390 => (if v390 = (v373 + j366) then (if j10 = 0 then (if j14 = 0 then (MX5_row v376.2.1 (nI r) 1).bind fun v399 => (if v399 = 1 then (MX5_row v376.2.1 (nI r) 6).bind fun v404 => (if v404 = j366 then (MX5_row v376.2.1 (nI r) 5).bind fun v409 => (if v409 = ((8 - j362) - j366) then some (1, v376.2.1, tr, v376.2.2.1, v376.2.2.2.1, v376.2.2.2.2, (nI n0), at0, fp, fr, fc, sg, nb) else some (0, v376.2.1, tr, v376.2.2.1, v376.2.2.2.1, v376.2.2.2.2, (nI n0), at0, fp, fr, fc, sg, nb)) else some (0, v376.2.1, tr, v376.2.2.1, v376.2.2.2.1, v376.2.2.2.2, (nI n0), at0, fp, fr, fc, sg, nb)) else some (0, v376.2.1, tr, v376.2.2.1, v376.2.2.2.1, v376.2.2.2.2, (nI n0), at0, fp, fr, fc, sg, nb)) else some (1, v376.2.1, tr, v376.2.2.1, v376.2.2.2.1, v376.2.2.2.2, (nI n0), at0, fp, fr, fc, sg, nb)) else some (1, v376.2.1, tr, v376.2.2.1, v376.2.2.2.1, v376.2.2.2.2, (nI n0), at0, fp, fr, fc, sg, nb)) else some (0, v376.2.1, tr, v376.2.2.1, v376.2.2.2.1, v376.2.2.2.2, (nI n0), at0, fp, fr, fc, sg, nb)) else some (0, v376.2.1, tr, v376.2.2.1, v376.2.2.2.1, v376.2.2.2.2, (nI n0), at0, fp, fr, fc, sg, nb)) else some (0, v376.2.1, tr, v376.2.2.1, v376.2.2.2.1, v376.2.2.2.2, (nI n0), at0, fp, fr, fc, sg, nb)) : Option (Int32 × (Nat → Int32) × (Nat → Int32) × Int32 × Int32 × (Nat → Nat → Int32) × Int32 × Int32 × Int32 × Int32 × Int32 × (Nat → Int32) × (Nat → Int32))) = some z ∧ ActQ N a H z := by
  have h := hI.1
  have hi := hI.2.1.1
  have hn := hi.1
  have ok := ok_mend hI.2.1 r
  obtain ⟨z, z1, z2, z3⟩ := mt_mend hI (r := r) (by rcases hw with ⟨h, _⟩ | ⟨h, _⟩ | ⟨h, _⟩ <;> omega)
  have fin := afq ok z3 h0 tr at0 fp fr fc sg nb
  rcases hw with ⟨hr, rfl, rfl⟩ | ⟨hr, hl, rfl, rfl⟩ | ⟨hr, hl, rfl, rfl⟩
  · have ho : oMend a r = (-1000001, a) := by unfold oMend; rw [if_neg (by omega)]
    rw [ho] at z2 z3
    exact xb (if_neg one_n0) (xb (if_neg one_n0) (xb (kq11 h im (nI n0)) (xb (kq12 h im (nI n0)) (xb z1 (xb (if_neg one_n0) (xt z2 (xb (kq11 z3.1 z.2.2.2.1 (nI n0)) (xt (Int32.add_zero _).symm (xb (kq12 z3.1 z.2.2.2.1 (nI n0)) (xt (Int32.add_zero _).symm (xf one_n0 (xs fin))))))))))))
  · have ho : oMend a r = (nI (aBack a r), (aMend a r).2) := by unfold oMend; rw [if_pos hr, if_neg (by omega)]; rfl
    rw [ho] at z2 z3
    have hr2 : r < aG (aMend a r).2 0 := by rw [mend_G]; exact hr
    have hi2 := z3.2.1.1
    have l2 : aF (aMend a r).2 1 r = 1 := by rw [mend_F1, if_pos rfl]
    have k1 := rq1 z3.1 hi2 hr2
    have k6 := rq6 z3.1 hi2 hr2
    have k5 := rq5 z3.1 hi2 hr2
    have c11 := kq11 z3.1 z.2.2.2.1 (nI n0)
    have c12 := kq12 z3.1 z.2.2.2.1 (nI n0)
    rw [l2] at k1
    rw [l2, if_pos rfl, mend_unk] at k5
    rw [mend_aWr] at k6
    rw [mend_C7] at c11
    rw [mend_C8] at c12
    have hb : aBack a r + aWrongs a r ≤ 8 := by
      have := heards_eq a r
      have : aHeards a r 8 ≤ 8 := sm_b1_le _ 8
      omega
    refine xb (v := nI (aBack a r)) (by rw [if_pos rfl, if_pos rfl, dq0 h hi hr hl]; rfl) ?_
    refine xb (v := nI (aWrongs a r)) (by rw [if_pos rfl, if_pos rfl, dq1 h hi hr hl]; rfl) ?_
    exact xb (kq11 h im (nI n0)) (xb (kq12 h im (nI n0)) (xb z1 (xb ((if_pos rfl).trans (if_pos rfl)) (xt z2 (xb c11 (xt rfl (xb c12 (xt rfl (xt rfl (xt rfl (xb k1 (xt rfl (xb k6 (xt rfl (xb k5 (xt (i8sub hb).symm (xs fin)))))))))))))))))
  · have ho : oMend a r = (-1000002, a) := by unfold oMend; rw [if_pos hr, if_pos hl]
    rw [ho] at z2 z3
    exact xb ((if_pos rfl).trans (if_neg one_n0)) (xb ((if_pos rfl).trans (if_neg one_n0)) (xb (kq11 h im (nI n0)) (xb (kq12 h im (nI n0)) (xb z1 (xb ((if_pos rfl).trans (if_neg one_n0)) (xt z2 (xb (kq11 z3.1 z.2.2.2.1 (nI n0)) (xt (Int32.add_zero _).symm (xb (kq12 z3.1 z.2.2.2.1 (nI n0)) (xt (Int32.add_zero _).symm (xt rfl (xf one_n0 (xs fin)))))))))))))
set_option maxHeartbeats 1000000 in
theorem act_lay (hI : LInv N a H f io im gs) (h0 : n0 ≤ 60) (tr : Nat → Int32) (at0 fp fr fc : Int32) (sg nb : Nat → Int32) {r : Nat} {j10 j14 : Int32} (hw : Who a r j10 j14) : ∃ z, ((MX5_count f im (nI n0) 13).bind fun v28 => (MX5_lay f io im gs (nI r)).bind fun v31 => (if j14 = 0 then (if j10 = 0 then (if v31.1 = (-1000002) then some (1, v31.2.1, tr, v31.2.2.1, v31.2.2.2.1, v31.2.2.2.2, (nI n0), at0, fp, fr, fc, sg, nb) else some (0, v31.2.1, tr, v31.2.2.1, v31.2.2.2.1, v31.2.2.2.2, (nI n0), at0, fp, fr, fc, sg, nb)) else (if v31.1 = (-1000001) then some (1, v31.2.1, tr, v31.2.2.1, v31.2.2.2.1, v31.2.2.2.2, (nI n0), at0, fp, fr, fc, sg, nb) else some (0, v31.2.1, tr, v31.2.2.1, v31.2.2.2.1, v31.2.2.2.2, (nI n0), at0, fp, fr, fc, sg, nb))) else (if v31.1 < 0 then some (0, v31.2.1, tr, v31.2.2.1, v31.2.2.2.1, v31.2.2.2.2, (nI n0), at0, fp, fr, fc, sg, nb) else (MX5_row v31.2.1 (nI r) 5).bind fun v49 => (if (8 - v49) < v31.1 then some (0, v31.2.1, tr, v31.2.2.1, v31.2.2.2.1, v31.2.2.2.2, (nI n0), at0, fp, fr, fc, sg, nb) else (MX5_count v31.2.1 v31.2.2.2.1 (nI n0) 13).bind fun v55 => (if v55 = (v28 + v31.1) then some (1, v31.2.1, tr, v31.2.2.1, v31.2.2.2.1, v31.2.2.2.2, (nI n0), at0, fp, fr, fc, sg, nb) else some (0, v31.2.1, tr, v31.2.2.1, v31.2.2.2.1, v31.2.2.2.2, (nI n0), at0, fp, fr, fc, sg, nb))))) : Option (Int32 × (Nat → Int32) × (Nat → Int32) × Int32 × Int32 × (Nat → Nat → Int32) × Int32 × Int32 × Int32 × Int32 × Int32 × (Nat → Int32) × (Nat → Int32))) = some z ∧ ActQ N a H z := by
  have h := hI.1
  have hi := hI.2.1.1
  have hn := hi.1
  have ok := ok_lay hI.2.1 r
  obtain ⟨z, z1, z2, z3⟩ := mt_lay hI (r := r) (by rcases hw with ⟨h, _⟩ | ⟨h, _⟩ | ⟨h, _⟩ <;> omega)
  have fin := afq ok z3 h0 tr at0 fp fr fc sg nb
  rcases hw with ⟨hr, rfl, rfl⟩ | ⟨hr, hl, rfl, rfl⟩ | ⟨hr, hl, rfl, rfl⟩
  · have ho : oLay a r = (-1000001, a) := by unfold oLay; rw [if_neg (by omega)]
    rw [ho] at z2
    exact xb (kq13 h im (nI n0)) (xb z1 (xt rfl (xf one_n0 (xt z2 (xs fin)))))
  · have ho : oLay a r = (-1000002, a) := by unfold oLay; rw [if_pos hr, if_neg (by omega)]
    rw [ho] at z2
    exact xb (kq13 h im (nI n0)) (xb z1 (xt rfl (xt rfl (xt z2 (xs fin)))))
  · have ho : oLay a r = (nI (aLayRow a r).1, (aLayRow a r).2) := by unfold oLay; rw [if_pos hr, if_pos hl]
    rw [ho] at z2 z3
    have hr2 : r < aG (aLayRow a r).2 0 := by rw [layR_G]; exact hr
    have hi2 := z3.2.1.1
    have k5 := rq5 z3.1 hi2 hr2
    have c13 := kq13 z3.1 z.2.2.2.1 (nI n0)
    have hN := layR_N a r
    have hu : aUnk (aLayRow a r).2 r = aUnk a r := by unfold aUnk; rw [layR_V]
    rw [layR_F, if_pos hl, hu] at k5
    rw [layR_C9] at c13
    refine xb (kq13 h im (nI n0)) (xb z1 (xf one_n0 ?_))
    rw [z2]
    refine xf (nI_pos (by omega)) (xb k5 ?_)
    rw [show (8 : Int32) = nI 8 from rfl, pk_sub (by omega)]
    exact xf (nI_nlt (by omega) (by omega)) (xb c13 (xt rfl (xs fin)))
set_option maxHeartbeats 1000000 in
theorem act_days (hI : LInv N a H f io im gs) (h0 : n0 ≤ 60) (tr : Nat → Int32) (at0 fp fr fc : Int32) (sg nb : Nat → Int32) (y : Int32) : ∃ z, ((ML_low (y >>> (8 &&& 31)) 5).bind fun v213 => (((if v213 = 0 then some 101 else some 9) : Option Int32)).bind fun j216 => (ML_low y j216).bind fun v220 => (((if v220 = 0 then some 1 else (if v220 = 100 then some 1 else some 0)) : Option Int32)).bind fun j223 => (MX5_count f im (nI n0) 1).bind fun v227 => (((if (v227 + v220) ≤ 9999 then some 0 else some 1) : Option Int32)).bind fun j230 => (MX5_days f io im gs v220).bind fun v234 => (((if j223 = 0 then (if j230 = 0 then some (v227 + v220) else some (-1000003)) else some (-1000001)) : Option Int32)).bind fun j237 => (if v234.1 = j237 then (MX5_count v234.2.1 v234.2.2.2.1 (nI n0) 1).bind fun v243 => (((if j223 = 0 then (if j230 = 0 then some v220 else some 0) else some 0) : Option Int32)).bind fun j246 => (if v243 = (v227 + j246) then some (1, v234.2.1, tr, v234.2.2.1, v234.2.2.2.1, v234.2.2.2.2, (nI n0), at0, fp, fr, fc, sg, nb) else some (0, v234.2.1, tr, v234.2.2.1, v234.2.2.2.1, v234.2.2.2.2, (nI n0), at0, fp, fr, fc, sg, nb)) else some (0, v234.2.1, tr, v234.2.2.1, v234.2.2.2.1, v234.2.2.2.2, (nI n0), at0, fp, fr, fc, sg, nb)) : Option (Int32 × (Nat → Int32) × (Nat → Int32) × Int32 × Int32 × (Nat → Nat → Int32) × Int32 × Int32 × Int32 × Int32 × Int32 × (Nat → Int32) × (Nat → Int32))) = some z ∧ ActQ N a H z := by
  have h := hI.1
  have hi := hI.2.1.1
  have hn := hi.1
  have hd := hi.2.1
  obtain ⟨w, _, ew⟩ := low_ok (y >>> (8 &&& 31)) (N := 5) (by decide) (by decide)
  refine xb ew ?_
  have hj : ∃ M, 0 < M ∧ M ≤ 101 ∧ ((if nI w = 0 then some 101 else some 9) : Option Int32) = some (nI M) := by
    by_cases q : nI w = 0
    · exact ⟨101, by decide, by decide, if_pos q⟩
    · exact ⟨9, by decide, by decide, if_neg q⟩
  obtain ⟨M, M1, M2, M3⟩ := hj
  refine xb M3 ?_
  obtain ⟨m, hm, em⟩ := low_ok y (N := M) M1 (by omega)
  refine xb em ?_
  have ok := ok_days hI.2.1 m
  obtain ⟨z, z1, z2, z3⟩ := mt_days hI (m := m) (by omega)
  have fin := afq ok z3 h0 tr at0 fp fr fc sg nb
  by_cases bad : m = 0 ∨ m = 100
  · have ho : oDays a m = (-1000001, a) := by unfold oDays; rw [if_neg (by omega)]
    rw [ho] at z2 z3
    refine xb (v := 1) ?_ ?_
    · by_cases q : m = 0
      · rw [if_pos (by rw [q]; rfl)]
      · rw [if_neg (nI_ne0 (by omega) (by omega)), if_pos (show nI m = 100 by rw [show m = 100 by omega]; rfl)]
    refine xb (kq1 h im (nI n0)) ?_
    refine xj (fun _ => True) ?_ (fun j _ => ?_)
    · by_cases q : nI (aG a 1) + nI m ≤ 9999
      · exact ⟨0, if_pos q, trivial⟩
      · exact ⟨1, if_neg q, trivial⟩
    exact xb z1 (xb (if_neg one_n0) (xt z2 (xb (kq1 z3.1 z.2.2.2.1 (nI n0)) (xb (if_neg one_n0) (xt (Int32.add_zero _).symm (xs fin))))))
  · refine xb (v := 0) ?_ ?_
    · rw [if_neg (nI_ne0 (by omega) (by omega)), if_neg (show ¬ nI m = 100 from fun q => by
        have := (nI_eq (b := 100) (by omega) (by decide)).mp q
        omega)]
    refine xb (kq1 h im (nI n0)) ?_
    rw [nI_add]
    by_cases q : aG a 1 + m ≤ 9999
    · have ho : oDays a m = (nI (aG a 1 + m), (aDays a m).2) := by unfold oDays; rw [if_pos (by omega), if_pos q]; rfl
      rw [ho] at z2 z3
      have c1 := kq1 z3.1 z.2.2.2.1 (nI n0)
      have e1 : aG (aDays a m).2 1 = aG a 1 + m := aG_s _ _ _
      rw [e1] at c1
      refine xb (if_pos (nI_le (b := 9999) q (by decide))) ?_
      exact xb z1 (xb ((if_pos rfl).trans (if_pos rfl)) (xt z2 (xb c1 (xb ((if_pos rfl).trans (if_pos rfl)) (xt (nI_add _ _).symm (xs fin))))))
    · have ho : oDays a m = (-1000003, a) := by unfold oDays; rw [if_pos (by omega), if_neg q]
      rw [ho] at z2 z3
      refine xb (if_neg (nI_ge (a := 9999) (by omega) (by omega))) ?_
      exact xb z1 (xb ((if_pos rfl).trans (if_neg one_n0)) (xt z2 (xb (kq1 z3.1 z.2.2.2.1 (nI n0)) (xb ((if_pos rfl).trans (if_neg one_n0)) (xt (Int32.add_zero _).symm (xs fin))))))
set_option maxHeartbeats 1000000 in
theorem act_set (hI : LInv N a H f io im gs) (h0 : n0 ≤ 60) (tr : Nat → Int32) (at0 fp fr fc : Int32) (sg nb : Nat → Int32) (y : Int32) : ∃ z, ((ML_low y 3).bind fun v148 => (((if v148 = 0 then some 18 else some 101) : Option Int32)).bind fun j151 => (ML_low (y >>> (2 &&& 31)) j151).bind fun v155 => (((if v148 = 2 then some 1 else (if v155 = 0 then some 1 else (if v148 = 0 then (if v155 = 17 then some 1 else some 0) else (if v155 = 100 then some 1 else some 0)))) : Option Int32)).bind fun j158 => (((if j158 = 0 then (MX5_count f im (nI n0) (20 + v148)).bind fun v190 => some v190 else some 0) : Option Int32)).bind fun j162 => (MX5_set f io im gs v148 v155).bind fun v166 => (((if j158 = 0 then some j162 else some (-1000001)) : Option Int32)).bind fun j169 => (if v166.1 = j169 then (if j158 = 0 then (MX5_count v166.2.1 v166.2.2.2.1 (nI n0) (20 + v148)).bind fun v177 => (if v177 = v155 then some (1, v166.2.1, tr, v166.2.2.1, v166.2.2.2.1, v166.2.2.2.2, (nI n0), at0, fp, fr, fc, sg, nb) else some (0, v166.2.1, tr, v166.2.2.1, v166.2.2.2.1, v166.2.2.2.2, (nI n0), at0, fp, fr, fc, sg, nb)) else some (1, v166.2.1, tr, v166.2.2.1, v166.2.2.2.1, v166.2.2.2.2, (nI n0), at0, fp, fr, fc, sg, nb)) else some (0, v166.2.1, tr, v166.2.2.1, v166.2.2.2.1, v166.2.2.2.2, (nI n0), at0, fp, fr, fc, sg, nb)) : Option (Int32 × (Nat → Int32) × (Nat → Int32) × Int32 × Int32 × (Nat → Nat → Int32) × Int32 × Int32 × Int32 × Int32 × Int32 × (Nat → Int32) × (Nat → Int32))) = some z ∧ ActQ N a H z := by
  have h := hI.1
  have hi := hI.2.1.1
  have hn := hi.1
  obtain ⟨w, hw, ew⟩ := low_ok y (N := 3) (by decide) (by decide)
  refine xb ew ?_
  have hj : ((if nI w = 0 then some 18 else some 101) : Option Int32) = some (nI (if w = 0 then 18 else 101)) := by
    by_cases q : w = 0
    · rw [q]; rfl
    · rw [if_neg (nI_ne0 (by omega) (by omega)), if_neg q]; rfl
  refine xb hj ?_
  have hM : 0 < (if w = 0 then 18 else 101) ∧ (if w = 0 then 18 else 101) ≤ 101 := by split <;> decide
  obtain ⟨m, hm, em⟩ := low_ok (y >>> (2 &&& 31)) (N := if w = 0 then 18 else 101) hM.1 (by omega)
  refine xb em ?_
  have ok := ok_set hI.2.1 w m
  obtain ⟨z, z1, z2, z3⟩ := mt_set hI (w := w) (x := m) (by omega) (by omega)
  have fin := afq ok z3 h0 tr at0 fp fr fc sg nb
  by_cases good : w ≤ 1 ∧ 1 ≤ m ∧ m ≤ (if w = 0 then 16 else 99)
  · have ho : oSet a w m = (nI (aSet a w m).1, (aSet a w m).2) := by unfold oSet; rw [if_pos good]
    rw [ho] at z2 z3
    have hb : ((if nI w = 2 then some 1 else (if nI m = 0 then some 1 else (if nI w = 0 then (if nI m = 17 then some 1 else some 0) else (if nI m = 100 then some 1 else some 0)))) : Option Int32) = some 0 := by
      rw [if_neg (show ¬ nI w = 2 from fun q => by
        have := (nI_eq (b := 2) (by omega) (by decide)).mp q
        omega), if_neg (nI_ne0 (by omega) (by omega))]
      by_cases q : w = 0
      · have g := good.2.2
        rw [if_pos q] at g
        rw [if_pos (show nI w = 0 by rw [q]; rfl), if_neg (show ¬ nI m = 17 from fun q => by
          have := (nI_eq (b := 17) (by omega) (by decide)).mp q
          omega)]
      · have g := good.2.2
        rw [if_neg q] at g
        rw [if_neg (nI_ne0 (by omega) (by omega)), if_neg (show ¬ nI m = 100 from fun q => by
          have := (nI_eq (b := 100) (by omega) (by decide)).mp q
          omega)]
    refine xb hb ?_
    have had : ∀ {b : Abs} {g : Nat → Int32} (_ : RepC b g) (i l : Int32), MX5_count g i l (20 + nI w) = some (nI (aG b (2 + w))) := by
      intro b g hgb i l
      rcases (show w = 0 ∨ w = 1 by omega) with rfl | rfl
      · exact kq20 hgb i l
      · exact kq21 hgb i l
    have e2 : aG (aSet a w m).2 (2 + w) = m := aG_s _ _ _
    have c2 := had z3.1 z.2.2.2.1 (nI n0)
    rw [e2] at c2
    refine xb (v := nI (aG a (2 + w))) (by rw [if_pos rfl, had h im (nI n0)]; rfl) ?_
    exact xb z1 (xb (if_pos rfl) (xt z2 (xt rfl (xb c2 (xt rfl (xs fin))))))
  · have ho : oSet a w m = (-1000001, a) := by unfold oSet; rw [if_neg good]
    rw [ho] at z2 z3
    have hb : ((if nI w = 2 then some 1 else (if nI m = 0 then some 1 else (if nI w = 0 then (if nI m = 17 then some 1 else some 0) else (if nI m = 100 then some 1 else some 0)))) : Option Int32) = some 1 := by
      by_cases q2 : w = 2
      · rw [if_pos (by rw [q2]; rfl)]
      · rw [if_neg (show ¬ nI w = 2 from fun q => q2 ((nI_eq (b := 2) (by omega) (by decide)).mp q))]
        by_cases q0 : m = 0
        · rw [if_pos (by rw [q0]; rfl)]
        · rw [if_neg (nI_ne0 (by omega) (by omega))]
          by_cases q : w = 0
          · rw [if_pos q] at hm
            have : m = 17 := by
              rcases Nat.lt_or_ge 16 m with k | k
              · omega
              · exact absurd ⟨by omega, by omega, by rw [if_pos q]; exact k⟩ good
            rw [if_pos (show nI w = 0 by rw [q]; rfl), if_pos (by rw [this]; rfl)]
          · rw [if_neg q] at hm
            have : m = 100 := by
              rcases Nat.lt_or_ge 99 m with k | k
              · omega
              · exact absurd ⟨by omega, by omega, by rw [if_neg q]; exact k⟩ good
            rw [if_neg (nI_ne0 (by omega) (by omega)), if_pos (by rw [this]; rfl)]
    exact xb hb (xb (if_neg one_n0) (xb z1 (xb (if_neg one_n0) (xt z2 (xf one_n0 (xs fin))))))
set_option maxHeartbeats 1000000 in
theorem act_begin (hI : LInv N a H f io im gs) (h0 : n0 ≤ 60) (tr : Nat → Int32) (at0 fp fr fc : Int32) (sg nb : Nat → Int32) (y : Int32) : ∃ z, ((ML_low (y >>> (2 &&& 31)) 9).bind fun v73 => (MX5_begin f io im gs (2 + v73)).bind fun v76 => (((if (2 + v73) = 2 then some 1 else (if (2 + v73) = 10 then some 1 else some 0)) : Option Int32)).bind fun j79 => (if j79 = 0 then (MX5_count v76.2.1 v76.2.2.2.1 (nI n0) 4).bind fun v85 => (if v76.1 = v85 then (MX5_count v76.2.1 v76.2.2.2.1 (nI n0) 0).bind fun v90 => (if v90 = (2 + v73) then (MX5_count v76.2.1 v76.2.2.2.1 (nI n0) 2).bind fun v95 => (if v95 = ((1 <<< ((2 + v73) &&& 31)) - 1) then (MX5_count v76.2.1 v76.2.2.2.1 (nI n0) 8).bind fun v100 => (MX5_count v76.2.1 v76.2.2.2.1 (nI n0) 9).bind fun v103 => (MX5_count v76.2.1 v76.2.2.2.1 (nI n0) 13).bind fun v106 => (if ((v100 + v103) + v106) = 0 then (MX5_count v76.2.1 v76.2.2.2.1 (nI n0) 6).bind fun v111 => (if v111 = 0 then some (1, v76.2.1, tr, v76.2.2.1, v76.2.2.2.1, v76.2.2.2.2, (nI n0), at0, fp, fr, fc, sg, nb) else some (0, v76.2.1, tr, v76.2.2.1, v76.2.2.2.1, v76.2.2.2.2, (nI n0), at0, fp, fr, fc, sg, nb)) else some (0, v76.2.1, tr, v76.2.2.1, v76.2.2.2.1, v76.2.2.2.2, (nI n0), at0, fp, fr, fc, sg, nb)) else some (0, v76.2.1, tr, v76.2.2.1, v76.2.2.2.1, v76.2.2.2.2, (nI n0), at0, fp, fr, fc, sg, nb)) else some (0, v76.2.1, tr, v76.2.2.1, v76.2.2.2.1, v76.2.2.2.2, (nI n0), at0, fp, fr, fc, sg, nb)) else some (0, v76.2.1, tr, v76.2.2.1, v76.2.2.2.1, v76.2.2.2.2, (nI n0), at0, fp, fr, fc, sg, nb)) else (if v76.1 = (-1000001) then some (1, v76.2.1, tr, v76.2.2.1, v76.2.2.2.1, v76.2.2.2.2, (nI n0), at0, fp, fr, fc, sg, nb) else some (0, v76.2.1, tr, v76.2.2.1, v76.2.2.2.1, v76.2.2.2.2, (nI n0), at0, fp, fr, fc, sg, nb))) : Option (Int32 × (Nat → Int32) × (Nat → Int32) × Int32 × Int32 × (Nat → Nat → Int32) × Int32 × Int32 × Int32 × Int32 × Int32 × (Nat → Int32) × (Nat → Int32))) = some z ∧ ActQ N a H z := by
  have h := hI.1
  have hi := hI.2.1.1
  have hn := hi.1
  obtain ⟨w, hw, ew⟩ := low_ok (y >>> (2 &&& 31)) (N := 9) (by decide) (by decide)
  refine xb ew ?_
  rw [show (2 : Int32) + nI w = nI (2 + w) from nI_add 2 w]
  generalize hm : 2 + w = m
  have ok := ok_begin hI.2.1 m
  obtain ⟨z, z1, z2, z3⟩ := mt_begin hI (m := m) (by omega)
  have fin := afq ok z3 h0 tr at0 fp fr fc sg nb
  refine xb z1 ?_
  by_cases good : 3 ≤ m ∧ m ≤ 9
  · have ho : oBegin a m = (nI (aBegin a m).1, (aBegin a m).2) := by unfold oBegin; rw [if_pos good]
    rw [ho] at z2 z3
    have hi2 := z3.2.1.1
    obtain ⟨b1', b2, b3, b4, b5, b6⟩ := begin_of hi.2.1 hi.2.2.1 hi.2.2.2.1 good
    have c4 := kq4 z3.1 hi2 z.2.2.2.1 (nI n0)
    have c0 := kq0 z3.1 z.2.2.2.1 (nI n0)
    have c2 := kq2 z3.1 hi2 z.2.2.2.1 (nI n0)
    have c8 := kq8 z3.1 z.2.2.2.1 (nI n0)
    have c9 := kq9 z3.1 z.2.2.2.1 (nI n0)
    have c13 := kq13 z3.1 z.2.2.2.1 (nI n0)
    have c6 := kq6 z3.1 hi2 z.2.2.2.1 (nI n0)
    rw [b1'] at c0
    rw [b4 4 (by decide)] at c8
    rw [b4 5 (by decide)] at c9
    rw [b5] at c13
    have hbits : ∀ {p : Nat → Bool}, (∀ q, p q = true) → nI (bits p m) = (1 <<< (nI m &&& 31)) - 1 := by
      intro p hp
      have e : ∀ k, bits p k = bits (fun _ => true) k := by
        intro k
        induction k with
        | zero => rfl
        | succ k ih =>
          show bits p k + 2 ^ k * b1 (p k) = bits (fun _ => true) k + 2 ^ k * b1 true
          rw [ih, hp k]
      rw [e m]
      have := (show ∀ k, k < 10 → nI (bits (fun _ => true) k) = ((1 : Int32) <<< (nI k &&& 31)) - 1 by decide) m (by omega)
      exact this
    have h6 : foldN (gUnk (aBegin a m).2) 0 (aG (aBegin a m).2 0) = 0 := by
      have hz : ∀ k (x : Int32), gUnk (aBegin a m).2 k x = x := by
        intro k x
        unfold gUnk
        rw [if_pos (b2 k)]
        have : aUnk (aBegin a m).2 k = 0 := (sm_zero _).mpr (fun c _ => by rw [b6]; rfl)
        rw [this, nI_0, Int32.add_zero]
      exact foldN_id (g := gUnk (aBegin a m).2) 0 _ (fun k x _ => hz k x)
    rw [h6] at c6
    refine xb (v := 0) ?_ ?_
    · rw [if_neg (show ¬ nI m = 2 from fun q => by
        have := (nI_eq (b := 2) (by omega) (by decide)).mp q
        omega), if_neg (show ¬ nI m = 10 from fun q => by
        have := (nI_eq (b := 10) (by omega) (by decide)).mp q
        omega)]
    refine xt rfl (xb c4 (xt z2 (xb c0 (xt rfl (xb c2 (xt ?_ (xb c8 (xb c9 (xb c13 (xt rfl (xb c6 (xt rfl (xs fin)))))))))))))
    rw [b1']
    exact hbits (fun q => decide_eq_true (b2 q))
  · have ho : oBegin a m = (-1000001, a) := by unfold oBegin; rw [if_neg good]
    rw [ho] at z2
    refine xb (v := 1) ?_ (xf one_n0 (xt z2 (xs fin)))
    by_cases q : m = 2
    · rw [if_pos (by rw [q]; rfl)]
    · have : m = 10 := by omega
      rw [if_neg (show ¬ nI m = 2 from fun y => q ((nI_eq (b := 2) (by omega) (by decide)).mp y)), if_pos (by rw [this]; rfl)]
set_option maxHeartbeats 1000000 in
theorem act_swap (hI : LInv N a H f io im gs) (h0 : n0 ≤ 60) (tr : Nat → Int32) (at0 fp fr fc : Int32) (sg nb : Nat → Int32) (y : Int32) {r : Nat} {j10 j14 : Int32} (hw : Who a r j10 j14) : ∃ z, ((ML_low (y >>> (4 &&& 31)) (nI (aG a 0))).bind fun v279 => (((if j14 = 0 then some 0 else (if v279 = (nI r) then some 0 else (MX5_row f v279 1).bind fun v355 => (if v355 = 1 then some 1 else some 0))) : Option Int32)).bind fun j282 => (((if j10 = 0 then (MX5_row f (nI r) 0).bind fun v345 => some v345 else some 0) : Option Int32)).bind fun j286 => (MX5_row f v279 0).bind fun v290 => (((if j286 ≤ v290 then some (v290 - j286) else some (j286 - v290)) : Option Int32)).bind fun j293 => (MX5_swap f io im gs (nI r) v279).bind fun v297 => (if j282 = 0 then (if j10 = 0 then (if (nI r) = v279 then (if v297.1 = (-1000001) then some (1, v297.2.1, tr, v297.2.2.1, v297.2.2.2.1, v297.2.2.2.2, (nI n0), at0, fp, fr, fc, sg, nb) else some (0, v297.2.1, tr, v297.2.2.1, v297.2.2.2.1, v297.2.2.2.2, (nI n0), at0, fp, fr, fc, sg, nb)) else (if v297.1 = (-1000002) then some (1, v297.2.1, tr, v297.2.2.1, v297.2.2.2.1, v297.2.2.2.2, (nI n0), at0, fp, fr, fc, sg, nb) else some (0, v297.2.1, tr, v297.2.2.1, v297.2.2.2.1, v297.2.2.2.2, (nI n0), at0, fp, fr, fc, sg, nb))) else (if v297.1 = (-1000001) then some (1, v297.2.1, tr, v297.2.2.1, v297.2.2.2.1, v297.2.2.2.2, (nI n0), at0, fp, fr, fc, sg, nb) else some (0, v297.2.1, tr, v297.2.2.1, v297.2.2.2.1, v297.2.2.2.2, (nI n0), at0, fp, fr, fc, sg, nb))) else (((if (2 * j293) ≤ (nI (aG a 0)) then some j293 else some ((nI (aG a 0)) - j293)) : Option Int32)).bind fun j318 => (if v297.1 = j318 then (MX5_row v297.2.1 (nI r) 0).bind fun v324 => (if v324 = v290 then (MX5_row v297.2.1 v279 0).bind fun v329 => (if v329 = j286 then some (1, v297.2.1, tr, v297.2.2.1, v297.2.2.2.1, v297.2.2.2.2, (nI n0), at0, fp, fr, fc, sg, nb) else some (0, v297.2.1, tr, v297.2.2.1, v297.2.2.2.1, v297.2.2.2.2, (nI n0), at0, fp, fr, fc, sg, nb)) else some (0, v297.2.1, tr, v297.2.2.1, v297.2.2.2.1, v297.2.2.2.2, (nI n0), at0, fp, fr, fc, sg, nb)) else some (0, v297.2.1, tr, v297.2.2.1, v297.2.2.2.1, v297.2.2.2.2, (nI n0), at0, fp, fr, fc, sg, nb))) : Option (Int32 × (Nat → Int32) × (Nat → Int32) × Int32 × Int32 × (Nat → Nat → Int32) × Int32 × Int32 × Int32 × Int32 × Int32 × (Nat → Int32) × (Nat → Int32))) = some z ∧ ActQ N a H z := by
  have h := hI.1
  have hi := hI.2.1.1
  have hn := hi.1
  obtain ⟨s, hs, es⟩ := low_ok (y >>> (4 &&& 31)) (N := aG a 0) (by omega) (by omega)
  refine xb es ?_
  have ok := ok_swap hI.2.1 r s
  have hp2 := pl_lt hi hs
  obtain ⟨z, z1, z2, z3⟩ := mt_swap hI (x := r) (y := s) (by rcases hw with ⟨h, _⟩ | ⟨h, _⟩ | ⟨h, _⟩ <;> omega) (by omega)
  have fin := afq ok z3 h0 tr at0 fp fr fc sg nb
  have hj293 : ∀ u v : Int32, ∃ w, ((if u ≤ v then some (v - u) else some (u - v)) : Option Int32) = some w ∧ True := by
    intro u v
    by_cases q : u ≤ v
    · exact ⟨_, if_pos q, trivial⟩
    · exact ⟨_, if_neg q, trivial⟩
  rcases hw with ⟨hr, rfl, rfl⟩ | ⟨hr, hl, rfl, rfl⟩ | ⟨hr, hl, rfl, rfl⟩
  · have ho : oSwap a r s = (-1000001, a) := by unfold oSwap; rw [if_neg (by omega)]
    rw [ho] at z2
    refine xb (if_pos rfl) (xb (if_neg one_n0) (xb (rq0 h hi hs) (xj (fun _ => True) (hj293 _ _) (fun w _ => ?_))))
    exact xb z1 (xt rfl (xf one_n0 (xt z2 (xs fin))))
  · refine xb (if_pos rfl) (xb (v := nI (aF a 0 r)) (by rw [if_pos rfl, rq0 h hi hr]; rfl) (xb (rq0 h hi hs) (xj (fun _ => True) (hj293 _ _) (fun w _ => ?_))))
    refine xb z1 (xt rfl (xt rfl ?_))
    by_cases q : r = s
    · have ho : oSwap a r s = (-1000001, a) := by unfold oSwap; rw [if_neg (fun z => z.2.2 q)]
      rw [ho] at z2
      exact xt (by rw [q]) (xt z2 (xs fin))
    · have ho : oSwap a r s = (-1000002, a) := by unfold oSwap; rw [if_pos ⟨hr, hs, q⟩, if_neg (by omega)]
      rw [ho] at z2
      exact xf (fun z => q ((nI_eq (by omega) (by omega)).mp z)) (xt z2 (xs fin))
  · by_cases q : r = s
    · have ho : oSwap a r s = (-1000001, a) := by unfold oSwap; rw [if_neg (fun z => z.2.2 q)]
      rw [ho] at z2
      refine xb (v := 0) (by rw [if_neg one_n0, if_pos (by rw [q])]) (xb (v := nI (aF a 0 r)) (by rw [if_pos rfl, rq0 h hi hr]; rfl) (xb (rq0 h hi hs) (xj (fun _ => True) (hj293 _ _) (fun w _ => ?_))))
      exact xb z1 (xt rfl (xt rfl (xt (by rw [q]) (xt z2 (xs fin)))))
    · have qn : ¬ nI s = nI r := fun z => q ((nI_eq (by omega) (by omega)).mp z).symm
      rcases inv_live hi hs with l2 | l2
      · have ho : oSwap a r s = (-1000002, a) := by unfold oSwap; rw [if_pos ⟨hr, hs, q⟩, if_neg (by omega)]
        rw [ho] at z2
        refine xb (v := 0) (by rw [if_neg one_n0, if_neg qn, rq1 h hi hs, Option.bind_some, l2, if_neg (show ¬ nI 0 = 1 by decide)]) (xb (v := nI (aF a 0 r)) (by rw [if_pos rfl, rq0 h hi hr]; rfl) (xb (rq0 h hi hs) (xj (fun _ => True) (hj293 _ _) (fun w _ => ?_))))
        exact xb z1 (xt rfl (xt rfl (xf (fun z => qn z.symm) (xt z2 (xs fin)))))
      · have ho : oSwap a r s = (nI (aFar a r s), (aSwap a r s).2) := by unfold oSwap; rw [if_pos ⟨hr, hs, q⟩, if_pos ⟨hl, l2⟩]; rfl
        rw [ho] at z2 z3
        have hi2 := z3.2.1.1
        have hp1 := pl_lt hi hr
        have hr2 : r < aG (aSwap a r s).2 0 := hr
        have hs2 : s < aG (aSwap a r s).2 0 := hs
        have k1 := rq0 z3.1 hi2 hr2
        have k2 := rq0 z3.1 hi2 hs2
        rw [(swap_0 a q).1] at k1
        rw [(swap_0 a q).2] at k2
        have hfar : ∃ d, ((if nI (aF a 0 r) ≤ nI (aF a 0 s) then some (nI (aF a 0 s) - nI (aF a 0 r)) else some (nI (aF a 0 r) - nI (aF a 0 s))) : Option Int32) = some (nI d) ∧ d ≤ 9 ∧ aFar a r s = min d (aG a 0 - d) ∧ d < aG a 0 := by
          by_cases w : aF a 0 r ≤ aF a 0 s
          · refine ⟨aF a 0 s - aF a 0 r, by rw [if_pos (nI_le w (by omega)), pk_sub w], by omega, ?_, by omega⟩
            unfold aFar
            rw [if_pos w]
          · refine ⟨aF a 0 r - aF a 0 s, by rw [if_neg (nI_ge (by omega) (by omega)), pk_sub (by omega)], by omega, ?_, by omega⟩
            unfold aFar
            rw [if_neg w]
        obtain ⟨d, d1, d2, d3, d4⟩ := hfar
        refine xb (v := 1) (by rw [if_neg one_n0, if_neg qn, rq1 h hi hs, Option.bind_some, l2, if_pos (show nI 1 = 1 from rfl)]) (xb (v := nI (aF a 0 r)) (by rw [if_pos rfl, rq0 h hi hr]; rfl) (xb (rq0 h hi hs) (xb d1 ?_)))
        refine xb z1 (xf one_n0 (xb (v := nI (aFar a r s)) ?_ (xt z2 (xb k1 (xt rfl (xb k2 (xt rfl (xs fin))))))))
        rw [show (2 : Int32) * nI d = nI (2 * d) from (Int32.ofNat_mul 2 d).symm, d3]
        by_cases w : 2 * d ≤ aG a 0
        · rw [if_pos (nI_le w (by omega)), Nat.min_eq_left (by omega)]
        · rw [if_neg (nI_ge (by omega) (by omega)), pk_sub (by omega), Nat.min_eq_right (by omega)]
end ACTS
