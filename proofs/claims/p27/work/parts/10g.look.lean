/-! what the look of a state is: a function of the state alone -/
def lkC (a : Abs) (k : Nat) : Int32 := match k with
  | 0 => nI (aG a 0)
  | 1 => nI (aG a 1)
  | 2 => nI (bits (fun r => decide (aF a 1 r = 1)) (aG a 0))
  | 3 => nI (bits (aSafe a) (aG a 0))
  | 4 => nI (aEchoes a)
  | 5 => nI (tOl a)
  | 6 => foldN (gUnk a) 0 (aG a 0)
  | 7 => foldN (gWr a) 0 (aG a 0)
  | 8 => aC a 4
  | 9 => aC a 5
  | 10 => aC a 6
  | 11 => aC a 7
  | 12 => aC a 8
  | _ => aC a 9
def mgV (a : Abs) (e : Ech) (w : Nat) : Int32 := match w with
  | 0 => nI (e.1 / 8)
  | 1 => nI (e.1 % 8)
  | 2 => nI e.2.1
  | _ => nI (aG a 1 - e.2.2)
def lkM (a : Abs) (r k : Nat) (h : Int64) : Int64 := match (aM a r)[k]? with
  | none => h
  | some e => foldN (fun w h => 31 * h + (mgV a e w).toInt64) h 4
def lkR (a : Abs) (r : Nat) (h : Int64) : Int64 :=
  31 * (foldN (lkM a r) (foldN (fun c h => 31 * (31 * h + (cellV a r c).toInt64) + (aW a r c).toInt64) (31 * (31 * (31 * h + (nI (aF a 0 r)).toInt64) + (aD a 2 r).toInt64) + (aD a 3 r).toInt64) 8) (aM a r).length) + (if aF a 1 r = 1 then (0 : Int32) else nI (aWrongs a r)).toInt64
def lkA (a : Abs) : Int64 := foldN (lkR a) (31 * (31 * foldN (fun k h => 31 * h + (lkC a k).toInt64) 317 14 + (nI (aG a 2)).toInt64) + (nI (aG a 3)).toInt64) (aG a 0)
section LOOK
variable {a : Abs} {f : Nat → Int32}
theorem cntAllx (h : RepC a f) (hi : aInv a) (hz : aWz a) (im le : Int32) {k : Nat} (hk : k < 14) : MX5_count f im le (nI k) = some (lkC a k) := by
  match k, hk with
  | 0, _ => exact kq0 h im le
  | 1, _ => exact kq1 h im le
  | 2, _ => exact kq2 h hi im le
  | 3, _ => exact kq3 h hi im le
  | 4, _ => exact kq4 h hi im le
  | 5, _ => exact kq5 h hi im le
  | 6, _ => exact kq6 h hi im le
  | 7, _ => exact kq7 h hi hz im le
  | 8, _ => exact kq8 h im le
  | 9, _ => exact kq9 h im le
  | 10, _ => exact kq10 h im le
  | 11, _ => exact kq11 h im le
  | 12, _ => exact kq12 h im le
  | 13, _ => exact kq13 h im le
  | k + 14, hk => omega
theorem mg_all (h : RepC a f) (hi : aInv a) {r k : Nat} {e : Ech} (hr : r < aG a 0) (he : (aM a r)[k]? = some e) {w : Nat} (hw : w < 4) : MX5_margin f (nI r) (nI k) (nI w) = some (mgV a e w) := by
  match w, hw with
  | 0, _ => exact gq0 h hi hr he
  | 1, _ => exact gq1 h hi hr he
  | 2, _ => exact gq2 h hi hr he
  | 3, _ => exact gq3 h hi hr he
  | w + 4, hw => omega
theorem lk_margin (h : RepC a f) (hi : aInv a) {r : Nat} (hr : r < aG a 0) (z : Int64) (x : Int64) : itr (SL_look_157 f (z, nI r)) FU (x, 0) = some (foldN (lkM a r) x (aM a r).length) := by
  have hl := inv_len hi hr
  refine loopN (step := SL_look_157 f (z, nI r)) (aM a r).length (by omega) (lkM a r) x (fun x => x) (fun k y hk => ?_) (fun y => ?_)
  · obtain ⟨e, he⟩ : ∃ e, (aM a r)[k]? = some e := ⟨_, List.getElem?_eq_getElem hk⟩
    unfold SL_look_157
    dsimp only
    rw [rq4 h hi hr, Option.bind_some, if_neg (nI_ge hk (by omega)), loopN (step := SL_look_171 f (z, nI r) (y, nI k)) 4 (by decide) (fun w h => 31 * h + (mgV a e w).toInt64) y (fun x => x) (fun w u hw => ?_) (fun u => ?_), Option.bind_some, nI_1]
    · unfold lkM
      rw [he]
    · unfold SL_look_171
      dsimp only
      rw [if_neg (show ¬ (4 : Int32) ≤ nI w from nI_ge (b := 4) hw (by decide)), mg_all h hi hr he hw, Option.bind_some, nI_1]
    · unfold SL_look_171
      dsimp only
      rw [if_pos (show (4 : Int32) ≤ nI 4 by decide)]
  · unfold SL_look_157
    dsimp only
    rw [rq4 h hi hr, Option.bind_some, if_pos (nI_le (Nat.le_refl _) (by omega))]
theorem lk_cells (h : RepC a f) (hi : aInv a) {r : Nat} (hr : r < aG a 0) (z : Int64) (x : Int64) : itr (SL_look_111 f (z, nI r)) FU (x, 0) = some (foldN (fun c h => 31 * (31 * h + (cellV a r c).toInt64) + (aW a r c).toInt64) x 8) := by
  refine loopN (step := SL_look_111 f (z, nI r)) 8 (by decide) (fun c h => 31 * (31 * h + (cellV a r c).toInt64) + (aW a r c).toInt64) x (fun x => x) (fun c y hc => ?_) (fun y => ?_)
  · unfold SL_look_111
    dsimp only
    rw [if_neg (show ¬ (8 : Int32) ≤ nI c from nI_ge (b := 8) hc (by decide)), ez0 h hi hr hc, Option.bind_some, ez1 h hi hr hc, Option.bind_some, nI_1]
  · unfold SL_look_111
    dsimp only
    rw [if_pos (show (8 : Int32) ≤ nI 8 by decide)]
theorem look_ok (h : RepC a f) (hi : aInv a) (hz : aWz a) (im le : Int32) : ML_look f im le = some (lkA a) := by
  have hn := hi.1
  unfold ML_look
  rw [loopN (step := SL_look_6 f im le) 14 (by decide) (fun k h => 31 * h + (lkC a k).toInt64) 317 (fun x => x) (fun k y hk => ?_) (fun y => ?_), Option.bind_some, kq20 h im le, Option.bind_some, kq21 h im le, Option.bind_some, loopN (step := SL_look_59 f im le) (aG a 0) (by omega) (lkR a) _ (fun x => x) (fun r y hr => ?_) (fun y => ?_), Option.bind_some]
  · rfl
  · unfold SL_look_59
    dsimp only
    rw [kq0 h im le, Option.bind_some, if_neg (nI_ge hr (by omega)), rq0 h hi hr, Option.bind_some, rq8 h hi hr, Option.bind_some, rq9 h hi hr, Option.bind_some, lk_cells h hi hr, Option.bind_some, lk_margin h hi hr, Option.bind_some, rq1 h hi hr, Option.bind_some]
    have hw : ((if nI (aF a 1 r) = 1 then some 0 else (MX5_would f (nI r) 1).bind fun v73 => some v73) : Option Int32) = some (if aF a 1 r = 1 then (0 : Int32) else nI (aWrongs a r)) := by
      rcases inv_live hi hr with w | w
      · rw [w, if_neg (show ¬ nI 0 = 1 by decide), if_neg (show ¬ 0 = 1 by decide), dq1 h hi hr w]
        rfl
      · rw [w, if_pos (show nI 1 = 1 from rfl), if_pos rfl]
    rw [hw, Option.bind_some, nI_1]
    rfl
  · unfold SL_look_59
    dsimp only
    rw [kq0 h im le, Option.bind_some, if_pos (nI_le (Nat.le_refl _) (by omega))]
  · unfold SL_look_6
    dsimp only
    rw [if_neg (show ¬ (14 : Int32) ≤ nI k from nI_ge (b := 14) hk (by decide)), cntAllx h hi hz im le hk, Option.bind_some, nI_1]
  · unfold SL_look_6
    dsimp only
    rw [if_pos (show (14 : Int32) ≤ nI 14 by decide)]
end LOOK
