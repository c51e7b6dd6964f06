/-! what each read answers -/
theorem cntO (f : Nat → Int32) (im le : Int32) {x : Int32} (h1 : ¬ x = 14) (h2 : ¬ x = 15) : MX5_count f im le x = MX4_ofAll f x := by
  unfold MX5_count
  rw [if_neg h1, if_neg h2]
  exact bind_id _
theorem cnt14 (f : Nat → Int32) (im le : Int32) : MX5_count f im le 14 = some im := by
  unfold MX5_count
  rw [if_pos rfl]
  rfl
theorem cnt15 (f : Nat → Int32) (im le : Int32) : MX5_count f im le 15 = some le := by
  unfold MX5_count
  rw [if_neg (by decide), if_pos rfl]
  rfl
section READS
variable {a : Abs} {f : Nat → Int32}
theorem kq0 (h : RepC a f) (im le : Int32) : MX5_count f im le 0 = some (nI (aG a 0)) := by
  rw [cntO f im le (by decide) (by decide)]
  unfold MX4_ofAll
  rw [if_pos rfl]
  rw [C_n h]
  rfl
theorem kq1 (h : RepC a f) (im le : Int32) : MX5_count f im le 1 = some (nI (aG a 1)) := by
  rw [cntO f im le (by decide) (by decide)]
  unfold MX4_ofAll
  rw [if_neg (show ¬ (1 : Int32) = 0 by decide), if_pos rfl]
  rw [C_day h]
  rfl
theorem kq2 (h : RepC a f) (hi : aInv a) (im le : Int32) : MX5_count f im le 2 = some (nI (bits (fun r => decide (aF a 1 r = 1)) (aG a 0))) := by
  rw [cntO f im le (by decide) (by decide)]
  unfold MX4_ofAll
  rw [if_neg (show ¬ (2 : Int32) = 0 by decide), if_neg (show ¬ (2 : Int32) = 1 by decide), if_pos rfl]
  rw [C_living h hi]
  rfl
theorem kq3 (h : RepC a f) (hi : aInv a) (im le : Int32) : MX5_count f im le 3 = some (nI (bits (aSafe a) (aG a 0))) := by
  rw [cntO f im le (by decide) (by decide)]
  unfold MX4_ofAll
  rw [if_neg (show ¬ (3 : Int32) = 0 by decide), if_neg (show ¬ (3 : Int32) = 1 by decide), if_neg (show ¬ (3 : Int32) = 2 by decide), if_pos rfl]
  rw [C_safe h hi]
  rfl
theorem kq4 (h : RepC a f) (hi : aInv a) (im le : Int32) : MX5_count f im le 4 = some (nI (aEchoes a)) := by
  rw [cntO f im le (by decide) (by decide)]
  unfold MX4_ofAll
  rw [if_neg (show ¬ (4 : Int32) = 0 by decide), if_neg (show ¬ (4 : Int32) = 1 by decide), if_neg (show ¬ (4 : Int32) = 2 by decide), if_neg (show ¬ (4 : Int32) = 3 by decide), if_pos rfl]
  rw [C_echoes h hi]
  rfl
theorem kq5 (h : RepC a f) (hi : aInv a) (im le : Int32) : MX5_count f im le 5 = some (nI (tOl a)) := by
  rw [cntO f im le (by decide) (by decide)]
  unfold MX4_ofAll
  rw [if_neg (show ¬ (5 : Int32) = 0 by decide), if_neg (show ¬ (5 : Int32) = 1 by decide), if_neg (show ¬ (5 : Int32) = 2 by decide), if_neg (show ¬ (5 : Int32) = 3 by decide), if_neg (show ¬ (5 : Int32) = 4 by decide), if_pos rfl]
  rw [C_echoes h hi, Option.bind_some, C_freshes h hi, Option.bind_some, pk_sub (by have := fr_all a; omega)]
  have := fr_all a
  rw [show aEchoes a - tFr a = tOl a by omega]
theorem kq6 (h : RepC a f) (hi : aInv a) (im le : Int32) : MX5_count f im le 6 = some (foldN (gUnk a) 0 (aG a 0)) := by
  rw [cntO f im le (by decide) (by decide)]
  unfold MX4_ofAll
  rw [if_neg (show ¬ (6 : Int32) = 0 by decide), if_neg (show ¬ (6 : Int32) = 1 by decide), if_neg (show ¬ (6 : Int32) = 2 by decide), if_neg (show ¬ (6 : Int32) = 3 by decide), if_neg (show ¬ (6 : Int32) = 4 by decide), if_neg (show ¬ (6 : Int32) = 5 by decide), if_pos rfl]
  rw [C_allUnk h hi]
  rfl
theorem kq7 (h : RepC a f) (hi : aInv a) (hz : aWz a) (im le : Int32) : MX5_count f im le 7 = some (foldN (gWr a) 0 (aG a 0)) := by
  rw [cntO f im le (by decide) (by decide)]
  unfold MX4_ofAll
  rw [if_neg (show ¬ (7 : Int32) = 0 by decide), if_neg (show ¬ (7 : Int32) = 1 by decide), if_neg (show ¬ (7 : Int32) = 2 by decide), if_neg (show ¬ (7 : Int32) = 3 by decide), if_neg (show ¬ (7 : Int32) = 4 by decide), if_neg (show ¬ (7 : Int32) = 5 by decide), if_neg (show ¬ (7 : Int32) = 6 by decide), if_pos rfl]
  rw [C_allWr h hi hz]
  rfl
theorem kq8 (h : RepC a f) (im le : Int32) : MX5_count f im le 8 = some (aC a 4) := by
  rw [cntO f im le (by decide) (by decide)]
  unfold MX4_ofAll
  rw [if_neg (show ¬ (8 : Int32) = 0 by decide), if_neg (show ¬ (8 : Int32) = 1 by decide), if_neg (show ¬ (8 : Int32) = 2 by decide), if_neg (show ¬ (8 : Int32) = 3 by decide), if_neg (show ¬ (8 : Int32) = 4 by decide), if_neg (show ¬ (8 : Int32) = 5 by decide), if_neg (show ¬ (8 : Int32) = 6 by decide), if_neg (show ¬ (8 : Int32) = 7 by decide), if_pos rfl]
  rw [show (4 : Int32) = nI 4 from rfl, C_cnt h (i := 4) (by decide) (by decide)]
  rfl
theorem kq9 (h : RepC a f) (im le : Int32) : MX5_count f im le 9 = some (aC a 5) := by
  rw [cntO f im le (by decide) (by decide)]
  unfold MX4_ofAll
  rw [if_neg (show ¬ (9 : Int32) = 0 by decide), if_neg (show ¬ (9 : Int32) = 1 by decide), if_neg (show ¬ (9 : Int32) = 2 by decide), if_neg (show ¬ (9 : Int32) = 3 by decide), if_neg (show ¬ (9 : Int32) = 4 by decide), if_neg (show ¬ (9 : Int32) = 5 by decide), if_neg (show ¬ (9 : Int32) = 6 by decide), if_neg (show ¬ (9 : Int32) = 7 by decide), if_neg (show ¬ (9 : Int32) = 8 by decide), if_pos rfl]
  rw [show (5 : Int32) = nI 5 from rfl, C_cnt h (i := 5) (by decide) (by decide)]
  rfl
theorem kq10 (h : RepC a f) (im le : Int32) : MX5_count f im le 10 = some (aC a 6) := by
  rw [cntO f im le (by decide) (by decide)]
  unfold MX4_ofAll
  rw [if_neg (show ¬ (10 : Int32) = 0 by decide), if_neg (show ¬ (10 : Int32) = 1 by decide), if_neg (show ¬ (10 : Int32) = 2 by decide), if_neg (show ¬ (10 : Int32) = 3 by decide), if_neg (show ¬ (10 : Int32) = 4 by decide), if_neg (show ¬ (10 : Int32) = 5 by decide), if_neg (show ¬ (10 : Int32) = 6 by decide), if_neg (show ¬ (10 : Int32) = 7 by decide), if_neg (show ¬ (10 : Int32) = 8 by decide), if_neg (show ¬ (10 : Int32) = 9 by decide), if_pos rfl]
  rw [show (6 : Int32) = nI 6 from rfl, C_cnt h (i := 6) (by decide) (by decide)]
  rfl
theorem kq11 (h : RepC a f) (im le : Int32) : MX5_count f im le 11 = some (aC a 7) := by
  rw [cntO f im le (by decide) (by decide)]
  unfold MX4_ofAll
  rw [if_neg (show ¬ (11 : Int32) = 0 by decide), if_neg (show ¬ (11 : Int32) = 1 by decide), if_neg (show ¬ (11 : Int32) = 2 by decide), if_neg (show ¬ (11 : Int32) = 3 by decide), if_neg (show ¬ (11 : Int32) = 4 by decide), if_neg (show ¬ (11 : Int32) = 5 by decide), if_neg (show ¬ (11 : Int32) = 6 by decide), if_neg (show ¬ (11 : Int32) = 7 by decide), if_neg (show ¬ (11 : Int32) = 8 by decide), if_neg (show ¬ (11 : Int32) = 9 by decide), if_neg (show ¬ (11 : Int32) = 10 by decide), if_pos rfl]
  rw [show (7 : Int32) = nI 7 from rfl, C_cnt h (i := 7) (by decide) (by decide)]
  rfl
theorem kq12 (h : RepC a f) (im le : Int32) : MX5_count f im le 12 = some (aC a 8) := by
  rw [cntO f im le (by decide) (by decide)]
  unfold MX4_ofAll
  rw [if_neg (show ¬ (12 : Int32) = 0 by decide), if_neg (show ¬ (12 : Int32) = 1 by decide), if_neg (show ¬ (12 : Int32) = 2 by decide), if_neg (show ¬ (12 : Int32) = 3 by decide), if_neg (show ¬ (12 : Int32) = 4 by decide), if_neg (show ¬ (12 : Int32) = 5 by decide), if_neg (show ¬ (12 : Int32) = 6 by decide), if_neg (show ¬ (12 : Int32) = 7 by decide), if_neg (show ¬ (12 : Int32) = 8 by decide), if_neg (show ¬ (12 : Int32) = 9 by decide), if_neg (show ¬ (12 : Int32) = 10 by decide), if_neg (show ¬ (12 : Int32) = 11 by decide), if_pos rfl]
  rw [show (8 : Int32) = nI 8 from rfl, C_cnt h (i := 8) (by decide) (by decide)]
  rfl
theorem kq13 (h : RepC a f) (im le : Int32) : MX5_count f im le 13 = some (aC a 9) := by
  rw [cntO f im le (by decide) (by decide)]
  unfold MX4_ofAll
  rw [if_neg (show ¬ (13 : Int32) = 0 by decide), if_neg (show ¬ (13 : Int32) = 1 by decide), if_neg (show ¬ (13 : Int32) = 2 by decide), if_neg (show ¬ (13 : Int32) = 3 by decide), if_neg (show ¬ (13 : Int32) = 4 by decide), if_neg (show ¬ (13 : Int32) = 5 by decide), if_neg (show ¬ (13 : Int32) = 6 by decide), if_neg (show ¬ (13 : Int32) = 7 by decide), if_neg (show ¬ (13 : Int32) = 8 by decide), if_neg (show ¬ (13 : Int32) = 9 by decide), if_neg (show ¬ (13 : Int32) = 10 by decide), if_neg (show ¬ (13 : Int32) = 11 by decide), if_neg (show ¬ (13 : Int32) = 12 by decide), if_pos rfl]
  rw [show (9 : Int32) = nI 9 from rfl, C_cnt h (i := 9) (by decide) (by decide)]
  rfl
theorem kq20 (h : RepC a f) (im le : Int32) : MX5_count f im le 20 = some (nI (aG a 2)) := by
  rw [cntO f im le (by decide) (by decide)]
  unfold MX4_ofAll
  rw [if_neg (show ¬ (20 : Int32) = 0 by decide), if_neg (show ¬ (20 : Int32) = 1 by decide), if_neg (show ¬ (20 : Int32) = 2 by decide), if_neg (show ¬ (20 : Int32) = 3 by decide), if_neg (show ¬ (20 : Int32) = 4 by decide), if_neg (show ¬ (20 : Int32) = 5 by decide), if_neg (show ¬ (20 : Int32) = 6 by decide), if_neg (show ¬ (20 : Int32) = 7 by decide), if_neg (show ¬ (20 : Int32) = 8 by decide), if_neg (show ¬ (20 : Int32) = 9 by decide), if_neg (show ¬ (20 : Int32) = 10 by decide), if_neg (show ¬ (20 : Int32) = 11 by decide), if_neg (show ¬ (20 : Int32) = 12 by decide), if_neg (show ¬ (20 : Int32) = 13 by decide), if_neg (show ¬ (20 : Int32) = 14 by decide), if_neg (show ¬ (20 : Int32) = 15 by decide), if_neg (show ¬ (20 : Int32) = 16 by decide), if_neg (show ¬ (20 : Int32) = 17 by decide), if_neg (show ¬ (20 : Int32) = 18 by decide), if_neg (show ¬ (20 : Int32) = 19 by decide), if_pos rfl]
  rw [C_brs h]
  rfl
theorem kq21 (h : RepC a f) (im le : Int32) : MX5_count f im le 21 = some (nI (aG a 3)) := by
  rw [cntO f im le (by decide) (by decide)]
  unfold MX4_ofAll
  rw [if_neg (show ¬ (21 : Int32) = 0 by decide), if_neg (show ¬ (21 : Int32) = 1 by decide), if_neg (show ¬ (21 : Int32) = 2 by decide), if_neg (show ¬ (21 : Int32) = 3 by decide), if_neg (show ¬ (21 : Int32) = 4 by decide), if_neg (show ¬ (21 : Int32) = 5 by decide), if_neg (show ¬ (21 : Int32) = 6 by decide), if_neg (show ¬ (21 : Int32) = 7 by decide), if_neg (show ¬ (21 : Int32) = 8 by decide), if_neg (show ¬ (21 : Int32) = 9 by decide), if_neg (show ¬ (21 : Int32) = 10 by decide), if_neg (show ¬ (21 : Int32) = 11 by decide), if_neg (show ¬ (21 : Int32) = 12 by decide), if_neg (show ¬ (21 : Int32) = 13 by decide), if_neg (show ¬ (21 : Int32) = 14 by decide), if_neg (show ¬ (21 : Int32) = 15 by decide), if_neg (show ¬ (21 : Int32) = 16 by decide), if_neg (show ¬ (21 : Int32) = 17 by decide), if_neg (show ¬ (21 : Int32) = 18 by decide), if_neg (show ¬ (21 : Int32) = 19 by decide), if_neg (show ¬ (21 : Int32) = 20 by decide), if_pos rfl]
  rw [C_fds h]
  rfl
theorem hasR (h : RepC a f) (hi : aInv a) {r : Nat} (hr : r < aG a 0) : MX3_hasRow f (nI r) = some 1 := by
  rcases C_hasRow h hi (nI r) with ⟨_, e⟩ | ⟨_, _, _, e⟩
  · exact absurd ⟨r, hr, rfl⟩ e
  · exact e
theorem hasN (h : RepC a f) (hi : aInv a) : MX3_hasRow f (nI (aG a 0)) = some 0 := by
  have hn := hi.1
  rcases C_hasRow h hi (nI (aG a 0)) with ⟨e, _⟩ | ⟨q, h1, h2, _⟩
  · exact e
  · have := (nI_eq (by omega) (by omega)).mp h2
    omega
theorem hasC {c : Nat} (hc : c < 8) : MX3_isCell (nI c) = some 1 := by
  rcases C_isCell (nI c) with ⟨_, e⟩ | ⟨_, _, _, e⟩
  · exact absurd ⟨c, hc, rfl⟩ e
  · exact e
theorem rq0 (h : RepC a f) (hi : aInv a) {r : Nat} (hr : r < aG a 0) : MX5_row f (nI r) 0 = some (nI (aF a 0 r)) := by
  unfold MX5_row MX4_ofRow
  rw [hasR h hi hr, Option.bind_some, if_neg one_n0, if_pos rfl]
  rw [C_pl h hi hr]
  rfl
theorem rq1 (h : RepC a f) (hi : aInv a) {r : Nat} (hr : r < aG a 0) : MX5_row f (nI r) 1 = some (nI (aF a 1 r)) := by
  unfold MX5_row MX4_ofRow
  rw [hasR h hi hr, Option.bind_some, if_neg one_n0, if_neg (show ¬ (1 : Int32) = 0 by decide), if_pos rfl]
  rw [C_lvx h hi hr]
  rfl
theorem rq2 (h : RepC a f) (hi : aInv a) {r : Nat} (hr : r < aG a 0) : MX5_row f (nI r) 2 = some (nI (aUp a r)) := by
  unfold MX5_row MX4_ofRow
  rw [hasR h hi hr, Option.bind_some, if_neg one_n0, if_neg (show ¬ (2 : Int32) = 0 by decide), if_neg (show ¬ (2 : Int32) = 1 by decide), if_pos rfl]
  rw [C_up h hi hr]
  rfl
theorem rq3 (h : RepC a f) (hi : aInv a) {r : Nat} (hr : r < aG a 0) : MX5_row f (nI r) 3 = some (nI (aLo a r)) := by
  unfold MX5_row MX4_ofRow
  rw [hasR h hi hr, Option.bind_some, if_neg one_n0, if_neg (show ¬ (3 : Int32) = 0 by decide), if_neg (show ¬ (3 : Int32) = 1 by decide), if_neg (show ¬ (3 : Int32) = 2 by decide), if_pos rfl]
  rw [C_lo h hi hr]
  rfl
theorem rq4 (h : RepC a f) (hi : aInv a) {r : Nat} (hr : r < aG a 0) : MX5_row f (nI r) 4 = some (nI (aM a r).length) := by
  unfold MX5_row MX4_ofRow
  rw [hasR h hi hr, Option.bind_some, if_neg one_n0, if_neg (show ¬ (4 : Int32) = 0 by decide), if_neg (show ¬ (4 : Int32) = 1 by decide), if_neg (show ¬ (4 : Int32) = 2 by decide), if_neg (show ¬ (4 : Int32) = 3 by decide), if_pos rfl]
  rw [C_ec h hi hr]
  rfl
theorem rq5 (h : RepC a f) (hi : aInv a) {r : Nat} (hr : r < aG a 0) : MX5_row f (nI r) 5 = some (nI (if aF a 1 r = 1 then aUnk a r else 8)) := by
  unfold MX5_row MX4_ofRow
  rw [hasR h hi hr, Option.bind_some, if_neg one_n0, if_neg (show ¬ (5 : Int32) = 0 by decide), if_neg (show ¬ (5 : Int32) = 1 by decide), if_neg (show ¬ (5 : Int32) = 2 by decide), if_neg (show ¬ (5 : Int32) = 3 by decide), if_neg (show ¬ (5 : Int32) = 4 by decide), if_pos rfl]
  rw [C_lives h hi hr, Option.bind_some]
  by_cases q : aF a 1 r = 1
  · rw [if_pos q, if_neg one_n0, if_pos q, C_unk h hi hr]
    rfl
  · rw [if_neg q, if_pos rfl, if_neg q]
    rfl
theorem rq6 (h : RepC a f) (hi : aInv a) {r : Nat} (hr : r < aG a 0) : MX5_row f (nI r) 6 = some (aWr a r) := by
  unfold MX5_row MX4_ofRow
  rw [hasR h hi hr, Option.bind_some, if_neg one_n0, if_neg (show ¬ (6 : Int32) = 0 by decide), if_neg (show ¬ (6 : Int32) = 1 by decide), if_neg (show ¬ (6 : Int32) = 2 by decide), if_neg (show ¬ (6 : Int32) = 3 by decide), if_neg (show ¬ (6 : Int32) = 4 by decide), if_neg (show ¬ (6 : Int32) = 5 by decide), if_pos rfl]
  rw [C_wrc h hi hr]
  rfl
theorem rq7 (h : RepC a f) (hi : aInv a) {r : Nat} (hr : r < aG a 0) : MX5_row f (nI r) 7 = some (nI (aBack a r)) := by
  unfold MX5_row MX4_ofRow
  rw [hasR h hi hr, Option.bind_some, if_neg one_n0, if_neg (show ¬ (7 : Int32) = 0 by decide), if_neg (show ¬ (7 : Int32) = 1 by decide), if_neg (show ¬ (7 : Int32) = 2 by decide), if_neg (show ¬ (7 : Int32) = 3 by decide), if_neg (show ¬ (7 : Int32) = 4 by decide), if_neg (show ¬ (7 : Int32) = 5 by decide), if_neg (show ¬ (7 : Int32) = 6 by decide), if_pos rfl]
  rw [C_back h hi hr]
  rfl
theorem rq8 (h : RepC a f) (hi : aInv a) {r : Nat} (hr : r < aG a 0) : MX5_row f (nI r) 8 = some (aD a 2 r) := by
  unfold MX5_row MX4_ofRow
  rw [hasR h hi hr, Option.bind_some, if_neg one_n0, if_neg (show ¬ (8 : Int32) = 0 by decide), if_neg (show ¬ (8 : Int32) = 1 by decide), if_neg (show ¬ (8 : Int32) = 2 by decide), if_neg (show ¬ (8 : Int32) = 3 by decide), if_neg (show ¬ (8 : Int32) = 4 by decide), if_neg (show ¬ (8 : Int32) = 5 by decide), if_neg (show ¬ (8 : Int32) = 6 by decide), if_neg (show ¬ (8 : Int32) = 7 by decide), if_pos rfl]
  rw [C_d2 h hi hr]
  rfl
theorem rq9 (h : RepC a f) (hi : aInv a) {r : Nat} (hr : r < aG a 0) : MX5_row f (nI r) 9 = some (aD a 3 r) := by
  unfold MX5_row MX4_ofRow
  rw [hasR h hi hr, Option.bind_some, if_neg one_n0, if_neg (show ¬ (9 : Int32) = 0 by decide), if_neg (show ¬ (9 : Int32) = 1 by decide), if_neg (show ¬ (9 : Int32) = 2 by decide), if_neg (show ¬ (9 : Int32) = 3 by decide), if_neg (show ¬ (9 : Int32) = 4 by decide), if_neg (show ¬ (9 : Int32) = 5 by decide), if_neg (show ¬ (9 : Int32) = 6 by decide), if_neg (show ¬ (9 : Int32) = 7 by decide), if_neg (show ¬ (9 : Int32) = 8 by decide), if_pos rfl]
  rw [C_d3 h hi hr]
  rfl
theorem kqat (h : RepC a f) (hi : aInv a) {q : Nat} (hq : q < aG a 0) : MX5_at f (nI q) = some (nI (aF a 2 q)) := by
  unfold MX5_at
  rw [hasR h hi hq, Option.bind_some, if_neg one_n0, C_at h hi hq]
  rfl
theorem gq_no (h : RepC a f) (hi : aInv a) {r k : Nat} (hr : r < aG a 0) (hk : (aM a r).length ≤ k) (hk2 : k < 2 ^ 31) : MX5_margin f (nI r) (nI k) 0 = some (-1000004) := by
  unfold MX5_margin MX4_ofMargin
  have hl := inv_len hi hr
  rw [hasR h hi hr, Option.bind_some, if_neg one_n0, if_neg (nI_pos hk2), if_neg (show ¬ (0 : Int32) < 0 by decide), if_pos (show (0 : Int32) ≤ 4 by decide), C_ec h hi hr, Option.bind_some, if_neg (nI_nlt hk hk2)]
  rfl
theorem echoI (h : RepC a f) (hi : aInv a) {r k : Nat} {e : Ech} (hr : r < aG a 0) (he : (aM a r)[k]? = some e) (x : Int32) (hx : ¬ x < 0) (hx2 : x ≤ 4) : MX4_ofMargin f (nI r) (nI k) x = (if x = 0 then some (nI (e.1 / 8)) else (if x = 1 then some (nI (e.1 % 8)) else (if x = 2 then some (nI e.2.1) else (if x = 3 then some (nI (aG a 1 - e.2.2)) else (some (if aOld a e = true then (1 : Int32) else 0)).bind fun v47 => (if v47 = 0 then some 0 else some 1))))) := by
  unfold MX4_ofMargin
  have hl := inv_len hi hr
  have hk : k < (aM a r).length := by
    rcases Nat.lt_or_ge k (aM a r).length with w | w
    · exact w
    · rw [List.getElem?_eq_none w] at he
      cases he
  have ho := inv_ok hi hr (List.mem_of_getElem? he)
  have h72 := ho.1.1
  have hE : MX4_echoIn f (nI r) (nI k) = some (pkE e) := C_echoIn h hi hr he
  rw [hasR h hi hr, Option.bind_some, if_neg one_n0, if_neg (nI_pos (by omega)), if_neg hx, if_pos hx2, C_ec h hi hr, Option.bind_some, if_pos (nI_lt hk (by omega)), hE, Option.bind_some, own_pk ho.1, val_pk ho.1, C_age h ho.1 ho.2, C_faded h hi ho.1 ho.2]
  rw [Option.bind_some, Option.bind_some, Option.bind_some, Option.bind_some, show (8 : Int32) = nI 8 from rfl, pk_div (by omega) (by decide) (by decide), ← pk_div (a := e.1) (d := 8) (by omega) (by decide) (by decide), pk_rem (by omega) (by decide) (by decide)]
theorem gq0 (h : RepC a f) (hi : aInv a) {r k : Nat} {e : Ech} (hr : r < aG a 0) (he : (aM a r)[k]? = some e) : MX5_margin f (nI r) (nI k) 0 = some (nI (e.1 / 8)) := by
  unfold MX5_margin
  rw [echoI h hi hr he 0 (by decide) (by decide), if_pos rfl]
  rfl
theorem gq1 (h : RepC a f) (hi : aInv a) {r k : Nat} {e : Ech} (hr : r < aG a 0) (he : (aM a r)[k]? = some e) : MX5_margin f (nI r) (nI k) 1 = some (nI (e.1 % 8)) := by
  unfold MX5_margin
  rw [echoI h hi hr he 1 (by decide) (by decide), if_neg (show ¬ (1 : Int32) = 0 by decide), if_pos rfl]
  rfl
theorem gq2 (h : RepC a f) (hi : aInv a) {r k : Nat} {e : Ech} (hr : r < aG a 0) (he : (aM a r)[k]? = some e) : MX5_margin f (nI r) (nI k) 2 = some (nI e.2.1) := by
  unfold MX5_margin
  rw [echoI h hi hr he 2 (by decide) (by decide), if_neg (show ¬ (2 : Int32) = 0 by decide), if_neg (show ¬ (2 : Int32) = 1 by decide), if_pos rfl]
  rfl
theorem gq3 (h : RepC a f) (hi : aInv a) {r k : Nat} {e : Ech} (hr : r < aG a 0) (he : (aM a r)[k]? = some e) : MX5_margin f (nI r) (nI k) 3 = some (nI (aG a 1 - e.2.2)) := by
  unfold MX5_margin
  rw [echoI h hi hr he 3 (by decide) (by decide), if_neg (show ¬ (3 : Int32) = 0 by decide), if_neg (show ¬ (3 : Int32) = 1 by decide), if_neg (show ¬ (3 : Int32) = 2 by decide), if_pos rfl]
  rfl
theorem hvE (hi : aInv a) {r c : Nat} {e : Ech} (q : aHeard a r c = some e) : ¬ frE (aHeard a r c) = -1 := by
  rw [q]
  exact m1_ne_pk (heard_ok hi q).1
def cellV (a : Abs) (r c : Nat) : Int32 := if aF a 1 r = 1 then (if aV a r c = 0 then -1000004 else nI (aV a r c - 1)) else -1000004
theorem cellBx (h : RepC a f) (hi : aInv a) {r c : Nat} (hr : r < aG a 0) (hc : c < 8) : ((if (if aF a 1 r = 1 then (1 : Int32) else 0) = 0 then some (-1) else (MX3_get f (64 + ((nI r * 8) + nI c))).bind fun v75 => some v75) : Option Int32) = some (if aF a 1 r = 1 then nI (aV a r c) - 1 else -1) := by
  rw [C_val2 h hi hr hc]
  by_cases q : aF a 1 r = 1
  · rw [if_pos q, if_pos q]; rfl
  · rw [if_neg q, if_neg q]; rfl
theorem ez0 (h : RepC a f) (hi : aInv a) {r c : Nat} (hr : r < aG a 0) (hc : c < 8) : MX5_cell f (nI r) (nI c) 0 = some (cellV a r c) := by
  unfold MX5_cell MX4_ofCell cellV
  have hV := inv_V hi hr hc
  rw [hasR h hi hr, Option.bind_some, if_neg one_n0, hasC hc, Option.bind_some, if_neg one_n0, C_lives h hi hr, Option.bind_some, cellBx h hi hr hc, Option.bind_some, C_fresh h hi hr hc, Option.bind_some]
  have ht : ∃ v, ((if frE (aHeard a r c) = -1 then some 0 else some 1) : Option Int32) = some v := by
    by_cases q : frE (aHeard a r c) = -1
    · exact ⟨_, if_pos q⟩
    · exact ⟨_, if_neg q⟩
  obtain ⟨v, hv⟩ := ht
  rw [hv, Option.bind_some, if_pos rfl]
  by_cases q : aF a 1 r = 1
  · rw [if_pos q, if_pos q]
    by_cases w : aV a r c = 0
    · rw [w, m1_of0, if_pos rfl, if_pos rfl]
      rfl
    · rw [nI_m1 (by omega), if_neg (m1_ne _ (by omega)), if_neg w]
      rfl
  · rw [if_neg q, if_neg q, if_pos rfl]
    rfl
theorem ez1 (h : RepC a f) (hi : aInv a) {r c : Nat} (hr : r < aG a 0) (hc : c < 8) : MX5_cell f (nI r) (nI c) 1 = some (aW a r c) := by
  unfold MX5_cell MX4_ofCell
  rw [hasR h hi hr, Option.bind_some, if_neg one_n0, hasC hc, Option.bind_some, if_neg one_n0, C_lives h hi hr, Option.bind_some, cellBx h hi hr hc, Option.bind_some, C_fresh h hi hr hc, Option.bind_some]
  have ht : ∃ v, ((if frE (aHeard a r c) = -1 then some 0 else some 1) : Option Int32) = some v := by
    by_cases q : frE (aHeard a r c) = -1
    · exact ⟨_, if_pos q⟩
    · exact ⟨_, if_neg q⟩
  obtain ⟨v, hv⟩ := ht
  rw [hv, Option.bind_some, if_neg one_n0, if_pos rfl, C_val2m h hi hr hc]
  rfl
theorem ez2 (h : RepC a f) (hi : aInv a) {r c : Nat} {e : Ech} (hr : r < aG a 0) (hc : c < 8) (q : aHeard a r c = some e) : MX5_cell f (nI r) (nI c) 2 = some (nI e.2.1) ∧ MX5_cell f (nI r) (nI c) 3 = some (nI (aG a 1 - e.2.2)) := by
  unfold MX5_cell MX4_ofCell
  have ho := heard_ok hi q
  constructor
  · rw [hasR h hi hr, Option.bind_some, if_neg one_n0, hasC hc, Option.bind_some, if_neg one_n0, C_lives h hi hr, Option.bind_some, cellBx h hi hr hc, Option.bind_some, C_fresh h hi hr hc, Option.bind_some, if_neg (hvE hi q), Option.bind_some]
    rw [q, show frE (some e) = pkE e from rfl]
    rw [if_neg (show ¬ (2 : Int32) = 0 by decide), if_neg (show ¬ (2 : Int32) = 1 by decide), if_pos rfl, if_neg one_n0, val_pk ho.1]
    rfl
  · rw [hasR h hi hr, Option.bind_some, if_neg one_n0, hasC hc, Option.bind_some, if_neg one_n0, C_lives h hi hr, Option.bind_some, cellBx h hi hr hc, Option.bind_some, C_fresh h hi hr hc, Option.bind_some, if_neg (hvE hi q), Option.bind_some]
    rw [q, show frE (some e) = pkE e from rfl]
    rw [if_neg (show ¬ (3 : Int32) = 0 by decide), if_neg (show ¬ (3 : Int32) = 1 by decide), if_neg (show ¬ (3 : Int32) = 2 by decide), if_pos rfl, if_neg one_n0, C_age h ho.1 ho.2.1]
    rfl
theorem oldLoop (h : RepC a f) (hi : aInv a) {r : Nat} (hr : r < aG a 0) : itr (SX4_ofMending_56 f (nI r)) FU (0, -1000004, 0) = some (nI (aHeards a r 8), aOldestI a r 8) := by
  show itr (SX4_ofMending_56 f (nI r)) FU (nI 0, -1000004, nI 0) = some (nI (aHeards a r 8), aOldestI a r 8)
  refine itr_for (step := SX4_ofMending_56 f (nI r)) 8 (fun k => (nI (aHeards a r k), aOldestI a r k, nI k)) _ (fun k hk => ?_) ?_ FU (FU_lt (by decide))
  · unfold SX4_ofMending_56
    dsimp only
    rw [if_neg (show ¬ (8 : Int32) ≤ nI k from nI_ge (b := 8) hk (by decide)), C_fresh h hi hr hk, Option.bind_some, nI_1, nI_1]
    show _ = some (Sum.inl (nI (aHeards a r k + b1 (decide (0 < aHv a r k))), (if aOldestI a r k < ageI a r k then ageI a r k else aOldestI a r k), nI (k + 1)))
    have hg := oldest_ge a r k
    cases q : aHeard a r k with
    | none =>
      have e0 : ageI a r k = -1000004 := by unfold ageI; rw [q]
      rw [show frE none = -1 from rfl, if_pos rfl, hv_none q, e0, if_neg (by rw [Int32.lt_iff_toInt_lt]; omega)]
      rfl
    | some e =>
      have ho := heard_ok hi q
      have e0 : ageI a r k = nI (aG a 1 - e.2.2) := by unfold ageI; rw [q]
      rw [show frE (some e) = pkE e from rfl, if_neg (m1_ne_pk ho.1), C_age h ho.1 ho.2.1, Option.bind_some, hv_some q, e0, decide_eq_true (show 0 < e.2.1 + 1 by omega)]
      rfl
  · unfold SX4_ofMending_56
    dsimp only
    rw [if_pos (by decide)]
theorem wd_lost (h : RepC a f) (hi : aInv a) {r : Nat} (hr : r < aG a 0) (hl : aF a 1 r = 0) (x : Int32) (hx : ¬ x < 0) (hx2 : x ≤ 3) : MX5_would f (nI r) x = (if x = 0 then some (nI (aBack a r)) else (if x = 1 then some (nI (aHeards a r 8) - nI (aBack a r)) else (if x = 2 then some (8 - nI (aHeards a r 8)) else some (aOldestI a r 8)))) := by
  unfold MX5_would MX4_ofMending
  have hl2 : ¬ aF a 1 r = 1 := by omega
  rw [hasR h hi hr, Option.bind_some, if_neg one_n0, if_neg hx, if_pos hx2, C_lives h hi hr, Option.bind_some, if_neg hl2, if_pos rfl, C_back h hi hr, Option.bind_some, oldLoop h hi hr, Option.bind_some]
  exact bind_id _
theorem heards_eq (a : Abs) (r : Nat) : aHeards a r 8 = aBack a r + aWrongs a r := heards_split a r 8
theorem dq0 (h : RepC a f) (hi : aInv a) {r : Nat} (hr : r < aG a 0) (hl : aF a 1 r = 0) : MX5_would f (nI r) 0 = some (nI (aBack a r)) := by
  rw [wd_lost h hi hr hl 0 (by decide) (by decide), if_pos rfl]
theorem dq1 (h : RepC a f) (hi : aInv a) {r : Nat} (hr : r < aG a 0) (hl : aF a 1 r = 0) : MX5_would f (nI r) 1 = some (nI (aWrongs a r)) := by
  rw [wd_lost h hi hr hl 1 (by decide) (by decide), if_neg one_n0, if_pos rfl, heards_eq, pk_sub (by omega), Nat.add_sub_cancel_left]
theorem dq2 (h : RepC a f) (hi : aInv a) {r : Nat} (hr : r < aG a 0) (hl : aF a 1 r = 0) : MX5_would f (nI r) 2 = some (nI (8 - aHeards a r 8)) := by
  rw [wd_lost h hi hr hl 2 (by decide) (by decide), if_neg (by decide), if_neg (by decide), if_pos rfl, show (8 : Int32) = nI 8 from rfl, pk_sub]
  exact sm_b1_le _ 8
theorem dq3 (h : RepC a f) (hi : aInv a) {r : Nat} (hr : r < aG a 0) (hl : aF a 1 r = 0) : MX5_would f (nI r) 3 = some (aOldestI a r 8) := by
  rw [wd_lost h hi hr hl 3 (by decide) (by decide), if_neg (by decide), if_neg (by decide), if_neg (by decide)]
theorem dq_no (h : RepC a f) (hi : aInv a) (x : Int32) : MX5_would f (nI (aG a 0)) x = some (-1000001) := by
  unfold MX5_would MX4_ofMending
  rw [hasN h hi, Option.bind_some, if_pos rfl]
  rfl
theorem dq4 (h : RepC a f) (hi : aInv a) {r : Nat} (hr : r < aG a 0) : MX5_would f (nI r) 4 = some (-1000001) := by
  unfold MX5_would MX4_ofMending
  rw [hasR h hi hr, Option.bind_some, if_neg one_n0, if_neg (by decide), if_neg (by decide)]
  rfl
theorem dq_live (h : RepC a f) (hi : aInv a) {r : Nat} (hr : r < aG a 0) (hl : aF a 1 r = 1) (x : Int32) (hx : ¬ x < 0) (hx2 : x ≤ 3) : MX5_would f (nI r) x = some (-1000002) := by
  unfold MX5_would MX4_ofMending
  rw [hasR h hi hr, Option.bind_some, if_neg one_n0, if_neg hx, if_pos hx2, C_lives h hi hr, Option.bind_some, if_pos hl, if_neg one_n0]
  rfl
/-- the greatest age: none, or between 0 and the days until an echo fades -/
theorem oldest_in (hi : aInv a) (r : Nat) : ∀ k, aOldestI a r k = -1000004 ∨ ∃ m, m ≤ aG a 3 ∧ aOldestI a r k = nI m
  | 0 => Or.inl rfl
  | k + 1 => by
    have hg := hi.2.2.2.1
    show (if aOldestI a r k < ageI a r k then ageI a r k else aOldestI a r k) = -1000004 ∨ ∃ m, m ≤ aG a 3 ∧ (if aOldestI a r k < ageI a r k then ageI a r k else aOldestI a r k) = nI m
    by_cases q : aOldestI a r k < ageI a r k
    · rw [if_pos q]
      unfold ageI
      cases w : aHeard a r k with
      | none => exact Or.inl rfl
      | some e => exact Or.inr ⟨_, (heard_ok hi w).2.2, rfl⟩
    · rw [if_neg q]
      exact oldest_in hi r k
theorem kqsafeFor (h : RepC a f) (hi : aInv a) : MX5_safeFor f = some (enO (rowsO a (aG a 0))) := by
  unfold MX5_safeFor
  rw [C_safeFor h hi]
  rfl
theorem bits_nn {b d : Nat} (hb : b < 2 ^ 24) (hd0 : 0 < d) (hd : d < 2 ^ 24) : ∃ v w, fdivA (FP.i2f (nI b)) (FP.i2f (nI d)) = some v ∧ MX4_bitsOf v = some w ∧ 0 ≤ w := by
  obtain ⟨l, hl, g1, g2⟩ := dig hd0 hd
  have e2 := i2f_px hl g1 g2 (nI d) (nI_toInt (by omega))
  rcases Nat.eq_zero_or_pos b with rfl | hb0
  · refine ⟨0, 0, ?_, bits_z, by decide⟩
    unfold fdivA
    rw [e2, show FP.i2f (nI 0) = 0 from i2f_0]
    exact px_fix (div_0 hl g1 g2) (by decide)
  · obtain ⟨k, hk, h1, h2⟩ := dig hb0 hb
    have e1 := i2f_px hk h1 h2 (nI b) (nI_toInt (by omega))
    obtain ⟨e, t, q1, q2, q3, q4⟩ := div_px hk h1 h2 hl g1 g2
    refine ⟨px e t, nI (e * 8388608 + t), ?_, bits_px q1 q2 q3, nI_pos' (by omega)⟩
    unfold fdivA
    rw [e1, e2]
    exact px_fix q4 (px_ok q2 q3)
theorem kqmean (h : RepC a f) (hi : aInv a) : ∃ v, MX5_mean f = some v ∧ (v = -1000004 ↔ tFr a = 0) := by
  unfold MX5_mean MX4_meanAge
  have hs := sm_lens hi
  have hE := fr_all a
  rw [C_freshes h hi, Option.bind_some]
  by_cases q : tFr a = 0
  · rw [q, if_pos (show nI 0 = (0 : Int32) from rfl), Option.bind_some]
    exact ⟨_, rfl, ⟨fun _ => rfl, fun _ => rfl⟩⟩
  · obtain ⟨n, hn1, hn2⟩ := ages_ub hi
    obtain ⟨v, w, h1, h2, h3⟩ := bits_nn (b := n) (d := tFr a) (by omega) (by omega) (by omega)
    rw [if_neg (nI_ne0 (by omega) (by omega)), C_ages h hi, Option.bind_some, hn2, h1, Option.bind_some, h2, Option.bind_some, Option.bind_some]
    refine ⟨w, rfl, ⟨fun z => ?_, fun z => absurd z q⟩⟩
    subst z
    exact absurd h3 (by decide)
theorem sm_zero {g : Nat → Nat} : ∀ n, sm g n = 0 ↔ ∀ k, k < n → g k = 0
  | 0 => ⟨fun _ k hk => absurd hk (Nat.not_lt_zero k), fun _ => rfl⟩
  | n + 1 => by
    have := sm_zero (g := g) n
    show sm g n + g n = 0 ↔ _
    constructor
    · intro z k hk
      rcases Nat.lt_or_ge k n with w | w
      · exact this.mp (by omega) k w
      · rw [show k = n by omega]; omega
    · intro z
      have h1 := this.mpr (fun k hk => z k (by omega))
      have h2 := z n (by omega)
      omega
theorem kqshare (h : RepC a f) (hi : aInv a) : ∃ v, MX5_share f = some v ∧ (v = -1000004 ↔ ∀ r, r < aG a 0 → ¬ aF a 1 r = 1) := by
  unfold MX5_share MX4_shareComingBack
  have hn := hi.1
  rw [C_share h hi, Option.bind_some]
  dsimp only
  have h1 : sm (sLv a) (aG a 0) ≤ 8 * aG a 0 := sm_ub _ (fun k _ => by unfold sLv; split <;> omega)
  have h2 : sm (sBk a) (aG a 0) ≤ 8 * aG a 0 := sm_ub _ (fun k _ => by
    have := aBack_le a k
    unfold sBk; split <;> omega)
  by_cases q : sm (sLv a) (aG a 0) = 0
  · rw [q, if_pos (show nI 0 = (0 : Int32) from rfl), Option.bind_some]
    refine ⟨_, rfl, ⟨fun _ r hr w => ?_, fun _ => rfl⟩⟩
    have := (sm_zero _).mp q r hr
    unfold sLv at this
    rw [if_pos w] at this
    omega
  · obtain ⟨v, w, g1, g2, g3⟩ := bits_nn (b := sm (sBk a) (aG a 0)) (d := sm (sLv a) (aG a 0)) (by omega) (by omega) (by omega)
    rw [if_neg (nI_ne0 (by omega) (by omega)), g1, Option.bind_some, g2, Option.bind_some, Option.bind_some]
    refine ⟨w, rfl, ⟨fun z => ?_, fun z => ?_⟩⟩
    · subst z
      exact absurd g3 (by decide)
    · exact absurd ((sm_zero _).mpr (fun k hk => by unfold sLv; rw [if_neg (z k hk)])) q
end READS
