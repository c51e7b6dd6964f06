/-! what a state is, in plain words, and what the calls do to it -/
abbrev Ech : Type := Nat × Nat × Nat
abbrev Abs : Type := (Nat → Nat) × (Nat → Int32) × (Nat → Nat → Nat) × (Nat → Nat → Int32) × (Nat → Nat → Nat) × (Nat → Nat → Int32) × (Nat → List Ech)
def aG (a : Abs) : Nat → Nat := a.1
def aC (a : Abs) : Nat → Int32 := a.2.1
def aF (a : Abs) : Nat → Nat → Nat := a.2.2.1
def aD (a : Abs) : Nat → Nat → Int32 := a.2.2.2.1
def aV (a : Abs) : Nat → Nat → Nat := a.2.2.2.2.1
def aW (a : Abs) : Nat → Nat → Int32 := a.2.2.2.2.2.1
def aM (a : Abs) : Nat → List Ech := a.2.2.2.2.2.2
def up2 {α : Type} (f : Nat → Nat → α) (i j : Nat) (x : α) : Nat → Nat → α := fun p q => if p = i ∧ q = j then x else f p q
def up1 {α : Type} (f : Nat → α) (i : Nat) (x : α) : Nat → α := fun p => if p = i then x else f p
theorem up1_s {α : Type} (f : Nat → α) (i : Nat) (x : α) : up1 f i x i = x := if_pos rfl
theorem up1_n {α : Type} (f : Nat → α) {i j : Nat} (x : α) (h : j ≠ i) : up1 f i x j = f j := if_neg h
theorem up2_s {α : Type} (f : Nat → Nat → α) (i j : Nat) (x : α) : up2 f i j x i j = x := if_pos ⟨rfl, rfl⟩
theorem up2_n {α : Type} (f : Nat → Nat → α) {i j p q : Nat} (x : α) (h : ¬ (p = i ∧ q = j)) : up2 f i j x p q = f p q := if_neg h
def sG (a : Abs) (i x : Nat) : Abs := (up1 a.1 i x, a.2)
def sC (a : Abs) (i : Nat) (x : Int32) : Abs := (a.1, up1 a.2.1 i x, a.2.2)
def sF (a : Abs) (i r x : Nat) : Abs := (a.1, a.2.1, up2 a.2.2.1 i r x, a.2.2.2)
def sD (a : Abs) (i r : Nat) (x : Int32) : Abs := (a.1, a.2.1, a.2.2.1, up2 a.2.2.2.1 i r x, a.2.2.2.2)
def sV (a : Abs) (r c x : Nat) : Abs := (a.1, a.2.1, a.2.2.1, a.2.2.2.1, up2 a.2.2.2.2.1 r c x, a.2.2.2.2.2)
def sW (a : Abs) (r c : Nat) (x : Int32) : Abs := (a.1, a.2.1, a.2.2.1, a.2.2.2.1, a.2.2.2.2.1, up2 a.2.2.2.2.2.1 r c x, a.2.2.2.2.2.2)
def sM (a : Abs) (r : Nat) (L : List Ech) : Abs := (a.1, a.2.1, a.2.2.1, a.2.2.2.1, a.2.2.2.2.1, a.2.2.2.2.2.1, up1 a.2.2.2.2.2.2 r L)
def aUp (a : Abs) (r : Nat) : Nat := aF a 2 ((aF a 0 r + aG a 0 - 1) % aG a 0)
def aLo (a : Abs) (r : Nat) : Nat := aF a 2 ((aF a 0 r + 1) % aG a 0)
def aHold (a : Abs) (r c : Nat) : Nat := if c % 2 = 0 then aUp a r else aLo a r
def aFind (L : List Ech) (o : Nat) : Option Ech := L.find? (fun e => decide (e.1 = o))
def aOld (a : Abs) (e : Ech) : Bool := decide (aG a 3 < aG a 1 - e.2.2)
def aHeard (a : Abs) (r c : Nat) : Option Ech := (aFind (aM a (aHold a r c)) (8 * r + c)).filter (fun e => !aOld a e)
def aHv (a : Abs) (r c : Nat) : Nat := match aHeard a r c with
  | some e => e.2.1 + 1
  | none => 0
def sm (f : Nat → Nat) : Nat → Nat
  | 0 => 0
  | n + 1 => sm f n + f n
def b1 (p : Bool) : Nat := if p then 1 else 0
def aBack (a : Abs) (r : Nat) : Nat := sm (fun c => b1 (decide (0 < aV a r c) && decide (aHv a r c = aV a r c))) 8
def aWrongs (a : Abs) (r : Nat) : Nat := sm (fun c => b1 (decide (0 < aHv a r c) && !decide (aHv a r c = aV a r c))) 8
def aLive (a : Abs) (r : Nat) : Prop := aF a 1 r = 1
def aLay1 (a : Abs) (r c b : Nat) : Nat × Abs :=
  if aV a r c = 0 ∨ aF a 1 b = 0 then (0, a)
  else (1, sC (sD (sM a b (((aM a b).filter (fun e => !decide (e.1 = 8 * r + c))).drop (((aM a b).filter (fun e => !decide (e.1 = 8 * r + c))).length + 1 - aG a 2) ++ [(8 * r + c, aV a r c - 1, aG a 1)])) 3 b (aD a 3 b + nI (((aM a b).filter (fun e => !decide (e.1 = 8 * r + c))).length + 1 - aG a 2))) 9 (aC a 9 + 1))
def aLayN (a : Abs) (r : Nat) : Nat → Nat × Abs
  | 0 => (0, a)
  | k + 1 => ((aLayN a r k).1 + (aLay1 (aLayN a r k).2 r k (aHold a r k)).1, (aLay1 (aLayN a r k).2 r k (aHold a r k)).2)
def aLayRow (a : Abs) (r : Nat) : Nat × Abs := if aF a 1 r = 1 then aLayN a r 8 else (0, a)
def aWrite (a : Abs) (r c v : Nat) : Nat × Abs := aLay1 (sC (sW (sV a r c (v + 1)) r c 0) 4 (aC a 4 + 1)) r c (aHold a r c)
/-- a row's words at once -/
def sVr (a : Abs) (r : Nat) (g : Nat → Nat) : Abs := (a.1, a.2.1, a.2.2.1, a.2.2.2.1, (fun p c => if p = r then g c else a.2.2.2.2.1 p c), a.2.2.2.2.2)
def sWr (a : Abs) (r : Nat) (g : Nat → Int32) : Abs := (a.1, a.2.1, a.2.2.1, a.2.2.2.1, a.2.2.2.2.1, (fun p c => if p = r then g c else a.2.2.2.2.2.1 p c), a.2.2.2.2.2.2)
def aLose (a : Abs) (r : Nat) : Nat × Abs := (aBack a r, sC (sD (sM (sF (sWr a r (fun _ => 0)) 1 r 0) r []) 2 r (aD a 2 r + 1)) 5 (aC a 5 + 1))
def aMendCells (a : Abs) (r : Nat) : Abs := sC (sWr (sVr a r (fun c => aHv a r c)) r (fun c => if 0 < aHv a r c ∧ ¬ aHv a r c = aV a r c then 1 else 0)) 8 (aC a 8 + nI (aWrongs a r))
def aMend (a : Abs) (r : Nat) : Nat × Abs :=
  let a1 := sF (aMendCells a r) 1 r 1
  let a2 := (aLayRow a1 (aUp a r)).2
  let a3 := (aLayRow a2 (aLo a r)).2
  let a4 := (aLayRow a3 r).2
  (aBack a r, sC (sC a4 6 (aC a4 6 + 1)) 7 (aC a4 7 + nI (aBack a r)))
def aFar (a : Abs) (x y : Nat) : Nat :=
  let d := if aF a 0 x ≤ aF a 0 y then aF a 0 y - aF a 0 x else aF a 0 x - aF a 0 y
  min d (aG a 0 - d)
def aSwap (a : Abs) (x y : Nat) : Nat × Abs :=
  (aFar a x y, sF (sF (sF (sF a 0 x (aF a 0 y)) 0 y (aF a 0 x)) 2 (aF a 0 y) x) 2 (aF a 0 x) y)
def aDays (a : Abs) (m : Nat) : Nat × Abs := (aG a 1 + m, sG a 1 (aG a 1 + m))
def sMall (a : Abs) (g : Nat → List Ech) : Abs := (a.1, a.2.1, a.2.2.1, a.2.2.2.1, a.2.2.2.2.1, a.2.2.2.2.2.1, g)
def aSet (a : Abs) (w x : Nat) : Nat × Abs :=
  let a1 := sG a (2 + w) x
  (aG a (2 + w), sMall a1 (fun r => (aM a r).drop ((aM a r).length - aG a1 2)))
def aFresh (a : Abs) (n : Nat) : Abs := (up1 a.1 0 n, fun _ => 0, fun k r => if k = 1 then 1 else r, fun _ _ => 0, fun _ _ => 1, fun _ _ => 0, fun _ => [])
def aLayRows (a : Abs) : Nat → Abs
  | 0 => a
  | k + 1 => (aLayRow (aLayRows a k) k).2
def aEchoes (a : Abs) : Nat := sm (fun r => (aM a r).length) (aG a 0)
def aBegin (a : Abs) (n : Nat) : Nat × Abs :=
  let a1 := aLayRows (aFresh a n) n
  (aEchoes a1, sC (a1.1, a1.2.1, a1.2.2.1, (fun k r => if k = 3 then 0 else a1.2.2.2.1 k r), a1.2.2.2.2) 9 0)
/-- what always holds -/
def aInv (a : Abs) : Prop :=
  (3 ≤ aG a 0 ∧ aG a 0 ≤ 9) ∧ aG a 1 ≤ 9999 ∧ (1 ≤ aG a 2 ∧ aG a 2 ≤ 16) ∧ (1 ≤ aG a 3 ∧ aG a 3 ≤ 99) ∧
  (∀ r, r < aG a 0 → aF a 0 r < aG a 0 ∧ aF a 2 r < aG a 0 ∧ aF a 2 (aF a 0 r) = r ∧ aF a 0 (aF a 2 r) = r ∧ aF a 1 r ≤ 1 ∧ (aM a r).length ≤ aG a 2 ∧ (aF a 1 r = 0 → aM a r = [])) ∧
  (∀ r c, r < aG a 0 → c < 8 → aV a r c ≤ 1000) ∧
  (∀ r e, r < aG a 0 → e ∈ aM a r → e.1 < 8 * aG a 0 ∧ e.2.1 ≤ 999 ∧ e.2.2 ≤ aG a 1) ∧
  (∀ r, r < aG a 0 → ((aM a r).map (fun e => e.1)).Nodup)
def aWz (a : Abs) : Prop := ∀ r c, r < aG a 0 → c < 8 → aF a 1 r = 0 → aW a r c = 0
/-- an echo in one number -/
def pkE (e : Ech) : Int32 := nI (e.1 * 16777216 + e.2.1 * 16384 + e.2.2)
/-- the class's row of numbers bears the state -/
def RepC (a : Abs) (f : Nat → Int32) : Prop :=
  (f 0 = nI (aG a 1) ∧ f 1 = nI (aG a 0) ∧ f 2 = nI (aG a 2) ∧ f 3 = nI (aG a 3)) ∧
  (∀ i, 4 ≤ i → i < 10 → f i = aC a i) ∧
  (∀ r, r < aG a 0 → f (10 + r) = nI (aF a 0 r) ∧ f (19 + r) = nI (aF a 2 r) ∧ f (28 + r) = nI (aF a 1 r) ∧ f (37 + r) = aD a 2 r ∧ f (46 + r) = aD a 3 r ∧ f (55 + r) = nI (aM a r).length) ∧
  (∀ r c, r < aG a 0 → c < 8 → f (64 + r * 8 + c) = nI (aV a r c) - 1 ∧ f (136 + r * 8 + c) = aW a r c) ∧
  (∀ r k e, r < aG a 0 → (aM a r)[k]? = some e → f (208 + r * 16 + k) = pkE e)
