/-! orders of mending: all orders, and the search that leaves off early -/
theorem foldN_app {α : Type} (g : Nat → α → α) (x : α) (p : Nat) : ∀ q, foldN g x (p + q) = foldN (fun k => g (p + k)) (foldN g x p) q
  | 0 => rfl
  | q + 1 => by
    show g (p + q) (foldN g x (p + q)) = g (p + q) (foldN (fun k => g (p + k)) (foldN g x p) q)
    rw [foldN_app g x p q]
theorem foldN_head {α : Type} (g : Nat → α → α) (x : α) : ∀ n, foldN g x (n + 1) = foldN (fun k => g (k + 1)) (g 0 x) n
  | 0 => rfl
  | n + 1 => by
    show g (n + 1) (foldN g x (n + 1)) = g (n + 1) (foldN (fun k => g (k + 1)) (g 0 x) n)
    rw [foldN_head g x n]
theorem foldN_id {α : Type} {g : Nat → α → α} (x : α) : ∀ n, (∀ k y, k < n → g k y = y) → foldN g x n = x
  | 0, _ => rfl
  | n + 1, h => by
    show g n (foldN g x n) = x
    rw [h n _ (by omega), foldN_id x n (fun k y hk => h k y (by omega))]
theorem foldN_mul {α : Type} (G : Nat → α → α) (x : α) (N : Nat) : ∀ q, foldN G x (q * N) = foldN (fun d y => foldN (fun j => G (d * N + j)) y N) x q
  | 0 => by rw [Nat.zero_mul]; rfl
  | q + 1 => by
    rw [Nat.succ_mul, foldN_app, foldN_mul G x N q]
    rfl
def digs : Nat → Nat → List Nat
  | 0, _ => []
  | k + 1, c => (c / 4 ^ k % 4) :: digs k c
def enumL {α : Type} : Nat → (List Nat → α → α) → α → α
  | 0, h, x => h [] x
  | k + 1, h, x => foldN (fun d y => enumL k (fun l => h (d :: l)) y) x 4
theorem digs_low (d K j : Nat) : ∀ k, k ≤ K → digs k (d * 4 ^ K + j) = digs k j
  | 0, _ => rfl
  | k + 1, hk => by
    show ((d * 4 ^ K + j) / 4 ^ k % 4) :: digs k (d * 4 ^ K + j) = (j / 4 ^ k % 4) :: digs k j
    rw [digs_low d K j k (by omega)]
    congr 1
    have e : d * 4 ^ K = 4 ^ k * (4 * (d * 4 ^ (K - k - 1))) := by
      have : 4 ^ K = 4 ^ k * (4 * 4 ^ (K - k - 1)) := by
        rw [← Nat.pow_succ', ← Nat.pow_add]
        congr 1
        omega
      rw [this]
      rw [Nat.mul_left_comm, Nat.mul_left_comm d 4]
    rw [e, Nat.mul_add_div (Nat.pow_pos (by decide))]
    omega
theorem digs_hi (d k j : Nat) (hd : d < 4) (hj : j < 4 ^ k) : digs (k + 1) (d * 4 ^ k + j) = d :: digs k j := by
  show ((d * 4 ^ k + j) / 4 ^ k % 4) :: digs k (d * 4 ^ k + j) = d :: digs k j
  rw [digs_low d k j k (Nat.le_refl _), Nat.mul_comm d, Nat.mul_add_div (Nat.pow_pos (by decide)), Nat.div_eq_of_lt hj, Nat.add_zero, Nat.mod_eq_of_lt hd]
theorem enum_codes {α : Type} : ∀ (k : Nat) (h : List Nat → α → α) (x : α), foldN (fun j y => h (digs k j) y) x (4 ^ k) = enumL k h x
  | 0, _, _ => rfl
  | k + 1, h, x => by
    rw [Nat.pow_succ', foldN_mul]
    show _ = foldN (fun d y => enumL k (fun l => h (d :: l)) y) x 4
    refine foldN_congr x 4 (fun d y hd => ?_)
    rw [← enum_codes k (fun l => h (d :: l)) y]
    refine foldN_congr y (4 ^ k) (fun j z hj => ?_)
    rw [digs_hi d k j hd hj]
theorem enum_id {α : Type} : ∀ (k : Nat) {h : List Nat → α → α} (x : α), (∀ l y, h l y = y) → enumL k h x = x
  | 0, _, x, q => q [] x
  | k + 1, h, x, q => foldN_id x 4 (fun d y _ => enum_id k y (fun l z => q (d :: l) z))
theorem enum_congr {α : Type} : ∀ (k : Nat) {h h' : List Nat → α → α} (x : α), (∀ l y, l.length = k → (∀ d ∈ l, d < 4) → h l y = h' l y) → enumL k h x = enumL k h' x
  | 0, _, _, x, q => q [] x rfl (fun d hd => absurd hd (by simp))
  | k + 1, h, h', x, q => by
    show foldN _ x 4 = foldN _ x 4
    refine foldN_congr x 4 (fun d y hd => ?_)
    exact enum_congr k y (fun l z hl hd' => q (d :: l) z (by rw [List.length_cons, hl]) (fun e he => by
      rcases List.mem_cons.mp he with rfl | he
      · exact hd
      · exact hd' e he))
abbrev Acc : Type := Option (Nat × List Nat)
def aSum (x : Acc) : Int := match x with
  | none => -1
  | some y => (y.1 : Int)
def keepA (g : Nat) (p : List Nat) (x : Acc) : Acc := if (g : Int) ≤ aSum x then x else some (g, p)
def dfs (L : List Nat) : Nat → Abs → Nat → List Nat → Acc → Acc
  | 0, _, g, p, x => keepA g p x
  | k + 1, a, g, p, x => L.foldl (fun y r => if aF a 1 r = 0 then dfs L k (aMend a r).2 (g + aBack a r) (p ++ [r]) y else y) x
def aStill (a : Abs) : Nat := sm (fun r => if aF a 1 r = 0 then aBack a r else 0) (aG a 0)
def aNl (a : Abs) : Nat := sm (fun r => b1 (decide (aF a 1 r = 0))) (aG a 0)
def pds (n : Nat) : Nat → Abs → Nat → List Nat → Acc → Acc
  | 0, _, g, p, x => keepA g p x
  | k + 1, a, g, p, x => foldN (fun r y => if aF a 1 r = 0 ∧ ¬ ((g + aStill a : Nat) : Int) ≤ aSum y then pds n k (aMend a r).2 (g + aBack a r) (p ++ [r]) y else y) x n
theorem foldl_id {α β : Type} {f : β → α → β} {y : β} : ∀ (L : List α), (∀ r ∈ L, f y r = y) → L.foldl f y = y
  | [], _ => rfl
  | r :: L, h => by
    show L.foldl f (f y r) = y
    rw [h r (List.mem_cons_self ..)]
    exact foldl_id L (fun q hq => h q (List.mem_cons_of_mem _ hq))
theorem foldl_congr' {α β : Type} {f g : β → α → β} : ∀ (L : List α) (x : β), (∀ r ∈ L, ∀ y, f y r = g y r) → L.foldl f x = L.foldl g x
  | [], _, _ => rfl
  | r :: L, x, h => by
    show L.foldl f (f x r) = L.foldl g (g x r)
    rw [h r (List.mem_cons_self ..)]
    exact foldl_congr' L _ (fun q hq => h q (List.mem_cons_of_mem _ hq))
theorem foldN_list {α : Type} (B : Nat → α → α) (J : Nat) (hJ : ∀ y, B J y = y) : ∀ (L : List Nat) (N : Nat) (x : α), L.length ≤ N → foldN (fun d y => B (L.getD d J) y) x N = L.foldl (fun y r => B r y) x
  | [], N, x, _ => foldN_id x N (fun d y _ => hJ y)
  | r :: L, 0, x, h => absurd h (by simp)
  | r :: L, N + 1, x, h => by
    rw [foldN_head]
    exact foldN_list B J hJ L N (B r x) (by
      rw [List.length_cons] at h
      omega)
theorem foldN_filter {α : Type} (B : Nat → α → α) (P : Nat → Bool) (x : α) : ∀ n, (∀ r y, r < n → P r = false → B r y = y) → foldN B x n = ((List.range n).filter P).foldl (fun y r => B r y) x
  | 0, _ => rfl
  | n + 1, h => by
    rw [List.range_succ, List.filter_append, List.foldl_append, ← foldN_filter B P x n (fun r y hr => h r y (by omega))]
    show B n (foldN B x n) = _
    cases q : P n with
    | true =>
      rw [List.filter_cons_of_pos q]
      rfl
    | false =>
      rw [List.filter_cons_of_neg (by rw [q]; decide), h n _ (by omega) q]
      rfl
theorem sm_mono {f g : Nat → Nat} : ∀ n, (∀ k, k < n → f k ≤ g k) → sm f n ≤ sm g n
  | 0, _ => Nat.le_refl 0
  | n + 1, h => Nat.add_le_add (sm_mono n (fun k hk => h k (by omega))) (h n (by omega))
theorem sm_one {f g : Nat → Nat} {r x : Nat} : ∀ n, r < n → (∀ k, k < n → ¬ k = r → g k ≤ f k) → g r + x ≤ f r → sm g n + x ≤ sm f n
  | 0, h, _, _ => absurd h (Nat.not_lt_zero _)
  | n + 1, h, h1, h2 => by
    show sm g n + g n + x ≤ sm f n + f n
    by_cases q : r = n
    · subst q
      have := sm_mono (f := g) (g := f) r (fun k hk => h1 k (by omega) (by omega))
      omega
    · have := sm_one (f := f) (g := g) (r := r) (x := x) n (by omega) (fun k hk => h1 k (by omega)) h2
      have := h1 n (by omega) (fun z => q z.symm)
      omega
theorem sm_eqone {f g : Nat → Nat} {r x : Nat} : ∀ n, r < n → (∀ k, k < n → ¬ k = r → g k = f k) → g r + x = f r → sm g n + x = sm f n
  | 0, h, _, _ => absurd h (Nat.not_lt_zero _)
  | n + 1, h, h1, h2 => by
    show sm g n + g n + x = sm f n + f n
    by_cases q : r = n
    · subst q
      have := sm_congr (f := g) (g := f) r (fun k hk => h1 k (by omega) (by omega))
      omega
    · have := sm_eqone (f := f) (g := g) (r := r) (x := x) n (by omega) (fun k hk => h1 k (by omega)) h2
      have := h1 n (by omega) (fun z => q z.symm)
      omega
section FIND
variable {a : Abs}
theorem find_sub {L L' : List Ech} (hs : L'.Sublist L) (hn : (L.map (fun e => e.1)).Nodup) (o : Nat) : aFind L' o = none ∨ aFind L' o = aFind L o := by
  cases q : aFind L' o with
  | none => exact Or.inl rfl
  | some e =>
    right
    have h1 : e.1 = o := of_decide_eq_true (List.find?_some (p := fun x : Ech => decide (x.1 = o)) q)
    have h2 : e ∈ L := hs.subset (List.mem_of_find?_eq_some q)
    obtain ⟨k, hk, he⟩ := List.getElem_of_mem h2
    have := find_at hn (k := k) (e := e) (by rw [List.getElem?_eq_getElem hk, he])
    rw [h1] at this
    exact this.symm
def FSub (a a' : Abs) (o : Nat) : Prop := ∀ b, b < aG a 0 → aFind (aM a' b) o = none ∨ aFind (aM a' b) o = aFind (aM a b) o
theorem FSub.refl' (a : Abs) (o : Nat) : FSub a a o := fun _ _ => Or.inr rfl
theorem FSub.trans' {a1 a2 a3 : Abs} {o : Nat} (h1 : FSub a1 a2 o) (h2 : FSub a2 a3 o) (hG : aG a2 0 = aG a1 0) : FSub a1 a3 o := by
  intro b hb
  rcases h2 b (by rw [hG]; exact hb) with q | q
  · exact Or.inl q
  · rw [q]; exact h1 b hb
theorem lay1_find (hi : aInv a) {r c b o : Nat} (ho : ¬ 8 * r + c = o) : FSub a (aLay1 a r c b).2 o := by
  intro b' hb'
  unfold aLay1
  split
  · exact Or.inr rfl
  · show aFind (up1 (aM a) b _ b') o = none ∨ aFind (up1 (aM a) b _ b') o = aFind (aM a b') o
    by_cases y : b' = b
    · subst y
      rw [up1_s]
      have hs : (((aM a b').filter (fun e => !decide (e.1 = 8 * r + c))).drop (((aM a b').filter (fun e => !decide (e.1 = 8 * r + c))).length + 1 - aG a 2)).Sublist (aM a b') := (List.drop_sublist _ _).trans List.filter_sublist
      have hf := find_sub hs (hi.2.2.2.2.2.2.2 b' hb') o
      have : aFind ((((aM a b').filter (fun e => !decide (e.1 = 8 * r + c))).drop (((aM a b').filter (fun e => !decide (e.1 = 8 * r + c))).length + 1 - aG a 2)) ++ [(8 * r + c, aV a r c - 1, aG a 1)]) o = aFind (((aM a b').filter (fun e => !decide (e.1 = 8 * r + c))).drop (((aM a b').filter (fun e => !decide (e.1 = 8 * r + c))).length + 1 - aG a 2)) o := by
        unfold aFind
        rw [List.find?_append, List.find?_cons_of_neg (by
          show ¬ decide (8 * r + c = o) = true
          rw [decide_eq_false ho]
          decide), List.find?_nil, Option.or_none]
      rw [this]
      exact hf
    · rw [up1_n _ _ y]
      exact Or.inr rfl
theorem layN_find (hi : aInv a) {r o : Nat} (hr : r < aG a 0) (ho : ∀ c, c < 8 → ¬ 8 * r + c = o) : ∀ k, k ≤ 8 → FSub a (aLayN a r k).2 o
  | 0, _ => FSub.refl' a o
  | k + 1, hk => FSub.trans' (layN_find hi hr ho k (by omega)) (lay1_find (layN_inv hi hr k (by omega)) (ho k (by omega))) (by rw [layN_G])
theorem layR_find (hi : aInv a) {r q c : Nat} (hr : r < aG a 0) (hc : c < 8) (h : r = q → ¬ aF a 1 r = 1) : FSub a (aLayRow a r).2 (8 * q + c) := by
  unfold aLayRow
  split
  · next w =>
    refine layN_find hi hr (fun c' hc' z => ?_) 8 (Nat.le_refl _)
    exact h (by omega) w
  · exact FSub.refl' a _
theorem mend_G (a : Abs) (r : Nat) : aG (aMend a r).2 = aG a := by
  show aG (aLayRow (aLayRow (aLayRow (sF (aMendCells a r) 1 r 1) (aUp a r)).2 (aLo a r)).2 r).2 = aG a
  rw [layR_G, layR_G, layR_G]
  rfl
theorem mend_F (a : Abs) (r : Nat) : aF (aMend a r).2 = up2 (aF a) 1 r 1 := by
  show aF (aLayRow (aLayRow (aLayRow (sF (aMendCells a r) 1 r 1) (aUp a r)).2 (aLo a r)).2 r).2 = _
  rw [layR_F, layR_F, layR_F]
  rfl
theorem mend_F1 (a : Abs) (r q : Nat) : aF (aMend a r).2 1 q = if q = r then 1 else aF a 1 q := by
  rw [mend_F]
  by_cases y : q = r
  · subst y; rw [up2_s, if_pos rfl]
  · rw [up2_n _ _ (fun z => y z.2), if_neg y]
theorem mend_F0 (a : Abs) (r q : Nat) : aF (aMend a r).2 0 q = aF a 0 q := by
  rw [mend_F, up2_n _ _ (fun z => absurd z.1 (by decide))]
theorem mend_F2 (a : Abs) (r q : Nat) : aF (aMend a r).2 2 q = aF a 2 q := by
  rw [mend_F, up2_n _ _ (fun z => absurd z.1 (by decide))]
theorem mend_V (a : Abs) {r q : Nat} (h : ¬ q = r) (c : Nat) : aV (aMend a r).2 q c = aV a q c := by
  show aV (aLayRow (aLayRow (aLayRow (sF (aMendCells a r) 1 r 1) (aUp a r)).2 (aLo a r)).2 r).2 q c = _
  rw [layR_V, layR_V, layR_V]
  show (if q = r then _ else aV a q c) = _
  rw [if_neg h]
theorem mend_find (hi : aInv a) {r q c : Nat} (hr : r < aG a 0) (hq : ¬ q = r) (hl : aF a 1 q = 0) (hc : c < 8) : FSub a (aMend a r).2 (8 * q + c) := by
  have k1 : aInv (sF (aMendCells a r) 1 r 1) := lives_inv (mendC_inv hi r)
  have hl1 : aF (sF (aMendCells a r) 1 r 1) 1 q = 0 := by
    show up2 (aF a) 1 r 1 1 q = 0
    rw [up2_n _ _ (fun z => hq z.2)]
    exact hl
  have k2 := layR_inv k1 (r := aUp a r) (inv_up hi r)
  have g2 : aG (aLayRow (sF (aMendCells a r) 1 r 1) (aUp a r)).2 0 = aG a 0 := by rw [layR_G]; rfl
  have k3 := layR_inv k2 (r := aLo a r) (by rw [g2]; exact inv_lo hi r)
  have g3 : aG (aLayRow (aLayRow (sF (aMendCells a r) 1 r 1) (aUp a r)).2 (aLo a r)).2 0 = aG a 0 := by rw [layR_G, g2]
  have f1 : FSub a (aLayRow (sF (aMendCells a r) 1 r 1) (aUp a r)).2 (8 * q + c) := (layR_find k1 (r := aUp a r) (q := q) (c := c) (inv_up hi r) hc (fun z w => by
    rw [z, hl1] at w
    cases w) :)
  have f2 := layR_find k2 (r := aLo a r) (q := q) (c := c) (by rw [g2]; exact inv_lo hi r) hc (fun z w => by
    rw [layR_F, z, hl1] at w
    cases w)
  have f3 := layR_find k3 (r := r) (q := q) (c := c) (by rw [g3]; exact hr) hc (fun z => absurd z.symm hq)
  exact ((f1.trans' f2 g2).trans' f3 g3 :)
theorem mend_back (hi : aInv a) {r q : Nat} (hr : r < aG a 0) (hq : ¬ q = r) (hl : aF a 1 q = 0) : aBack (aMend a r).2 q ≤ aBack a q := by
  unfold aBack
  refine sm_mono 8 (fun c hc => ?_)
  have hH : aHold (aMend a r).2 q c = aHold a q c := by
    unfold aHold
    rw [aUp_congr (by rw [mend_G]) (mend_F0 a r) (mend_F2 a r), aLo_congr (by rw [mend_G]) (mend_F0 a r) (mend_F2 a r)]
  have hO : ∀ e, aOld (aMend a r).2 e = aOld a e := by
    intro e
    unfold aOld
    rw [mend_G]
  have hh : aHeard (aMend a r).2 q c = none ∨ aHeard (aMend a r).2 q c = aHeard a q c := by
    unfold aHeard
    rw [hH, show (fun e => !aOld (aMend a r).2 e) = (fun e => !aOld a e) from funext fun e => by rw [hO]]
    rcases mend_find hi hr hq hl hc (aHold a q c) (inv_hold hi q c) with z | z
    · rw [z]; exact Or.inl rfl
    · rw [z]; exact Or.inr rfl
  rw [mend_V a hq]
  rcases hh with z | z
  · rw [hv_none z]
    by_cases w : aV a q c = 0
    · rw [w]; exact Nat.zero_le _
    · rw [show decide (0 = aV a q c) = false from decide_eq_false (fun v => w v.symm), Bool.and_false]
      exact Nat.zero_le _
  · unfold aHv
    rw [z]
    exact Nat.le_refl _
theorem nl_mend {r : Nat} (hr : r < aG a 0) (hl : aF a 1 r = 0) : aNl (aMend a r).2 + 1 = aNl a := by
  unfold aNl
  rw [mend_G]
  refine sm_eqone (r := r) (x := 1) _ hr (fun k hk z => ?_) ?_
  · rw [mend_F1, if_neg z]
  · rw [mend_F1, if_pos rfl, hl]
    rfl
theorem still_mend (hi : aInv a) {r : Nat} (hr : r < aG a 0) (hl : aF a 1 r = 0) : aBack a r + aStill (aMend a r).2 ≤ aStill a := by
  unfold aStill
  rw [mend_G, Nat.add_comm]
  refine sm_one (r := r) _ hr (fun k hk z => ?_) ?_
  · rw [mend_F1, if_neg z]
    by_cases w : aF a 1 k = 0
    · rw [if_pos w, if_pos w]
      exact mend_back hi hr z w
    · rw [if_neg w, if_neg w]
      exact Nat.le_refl _
  · rw [mend_F1, if_pos rfl, if_neg (by decide), hl, if_pos rfl]
    omega
end FIND
