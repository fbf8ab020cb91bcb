/-! THE MODEL: deeds -/
def setK (s f : wSg) : wSg := fun k => if 7 ≤ k ∧ k < 208 then f (k - 7) else s k
def aloneM (p : Nat) : wSg := fun k => if k = p then 1 else 0
/-- where one may stand behind a winding of h -/
noncomputable def woundM (s : wSg) (on : Bool) (h : Nat) : wSg := fun p => @ite _ (∃ q, q ≤ s 208 ∧ s (7 + q) = 1 ∧ ∃ w, w < thumbsM s ∧ runsM s q on (heldM s h w) = p) (Classical.propDecidable _) 1 0
def cntM (c p q : Nat) : Nat := (((c : Int) + ((p : Int) - (q : Int))) % 1000).toNat
def goesM (s : wSg) (on : Bool) (n : Nat) (counted : Bool) : wSg :=
  if counted = true then su (su s 1 (goM s (s 1) on n)) 2 (cntM (s 2) (goM s (s 1) on n) (s 1)) else su s 1 (goM s (s 1) on n)
def lcgM (x : Nat) : Nat := 1664525 * x + 1013904223
def drawM (x n : Nat) : Nat := lcgM x % 4294967296 / 256 % n
noncomputable def secM (s : wSg) (on : Bool) (h : Nat) : wSg :=
  if 0 < slipM s (s 1) on h then goesM (su s 5 (lcgM (s 5))) on (speedM s (s 1) on h) (!decide (drawM (s 5) 1000 < slipM s (s 1) on h)) else goesM s on (speedM s (s 1) on h) true
noncomputable def secsM (on : Bool) (h : Nat) : Nat → wSg → wSg
  | 0, s => s
  | k + 1, s => secsM on h k (secM s on h)
def noteM (s : wSg) (what much : Nat) : wSg :=
  if s 6 = 150 then s else su (su (su (su (su s (954 + 4 * s 6) (s 4)) (954 + 4 * s 6 + 1) what) (954 + 4 * s 6 + 2) much) (954 + 4 * s 6 + 3) (s 1)) 6 (s 6 + 1)
def pressM (s : wSg) (told : Nat) : Nat := if 0 < s 209 then told + drawM (s 5) (thumbsM s) - s 209 else told
def drawnM (s : wSg) : wSg := if 0 < s 209 then su s 5 (lcgM (s 5)) else s
noncomputable def wind1M (s : wSg) (on : Bool) (told : Nat) : wSg := secsM on (pressM s told) (pressM s told) (setK (drawnM s) (woundM s on told))
noncomputable def wind2M (s : wSg) (on : Bool) (h : Nat) : wSg := goesM s on (lateM s (s 1) on h) true
def wind3M (s : wSg) (h : Nat) : wSg := su (su s 3 (s 3 + (h + 1))) 4 (s 4 + 1)
noncomputable def windM (s : wSg) (on : Bool) (told : Nat) : wSg := noteM (wind3M (wind2M (wind1M s on told) on (pressM s told)) (pressM s told)) (if on = true then 0 else 1) (pressM s told)
/-- where one may stand behind a second of hearing -/
noncomputable def hrdM (s : wSg) : wSg := fun p => @ite _ (∃ q, q ≤ s 208 ∧ s (7 + q) = 1 ∧ heardM s (s 0) q = heardM s (s 0) (s 1) ∧ min (s 208) (q + 1) = p) (Classical.propDecidable _) 1 0
noncomputable def hear1M (s : wSg) : wSg := goesM (setK s (hrdM s)) true 1 true
noncomputable def hearsM : Nat → wSg → wSg
  | 0, s => s
  | k + 1, s => hearsM k (hear1M s)
noncomputable def lastM : Nat → wSg → Int → Int
  | 0, _, d => d
  | k + 1, s, _ => lastM k (hear1M s) (heardM s (s 0) (s 1))
noncomputable def hearM (s : wSg) (n : Nat) : wSg := noteM (su (hearsM n s) 3 ((hearsM n s) 3 + n)) 2 n
def turnK (s : wSg) : wSg := fun p => if p ≤ s 208 then s (7 + (s 208 - p)) else 0
def turnM (s : wSg) : wSg := noteM (su (su (su (su (setK s (turnK s)) 0 (1 - s 0)) 1 (s 208 - s 1)) 3 (s 3 + 8)) 2 0) 3 0
def putM (s : wSg) (p : Nat) : wSg := noteM (su (setK (su s 1 p) (aloneM p)) 2 0) 4 p
noncomputable def deedM (s : wSg) (d : Nat) : wSg := if d / 100 = 3 then turnM s else if d / 100 = 2 then hearM s (d % 100) else windM s (decide (d / 100 = 0)) (d % 100)
noncomputable def deedsM : Nat → Nat → wSg → wSg
  | _, 0, s => s
  | i, k + 1, s => deedsM (i + 1) k (deedM s (s (674 + i)))
def rewindM (s : wSg) : wSg := setK (su (su (su (su (su s 0 0) 1 0) 2 0) 3 0) 4 0) (aloneM 0)
/-! in thought -/
noncomputable def costM (s : wSg) (place begins : Nat) (on : Bool) (h : Nat) : Nat → Nat → Nat
  | _, 0 => 0
  | w, n + 1 => heldM s h w + 1 + (if runsM s place on (heldM s h w) ≤ begins then begins - runsM s place on (heldM s h w) else s 210 + 2 * (runsM s place on (heldM s h w) - begins)) + costM s place begins on h (w + 1) n
noncomputable def costsM (s : wSg) (place begins : Nat) (on : Bool) (h : Nat) : Nat := costM s place begins on h 0 (thumbsM s)
/-- the better of two: (cost, held, on) -/
def betterM (a b : Nat × Nat × Nat) : Nat × Nat × Nat := if b.1 < a.1 then b else a
noncomputable def seekM (s : wSg) (place begins : Nat) : Nat → Nat → Nat × Nat × Nat → Nat × Nat × Nat
  | _, 0, a => a
  | h, n + 1, a => seekM s place begins (h + 1) n (betterM (betterM a (costsM s place begins true h, h, 1)) (costsM s place begins false h, h, 0))
noncomputable def soonM (s : wSg) (place begins : Nat) : Nat × Nat × Nat := seekM s place begins 1 60 (if place ≤ begins then (begins - place) * thumbsM s else 100000000, 0, 1)
noncomputable def leastM (s : wSg) (place : Nat) (on : Bool) (to : Nat) : Nat → Nat → Nat
  | h, 0 => h
  | h, n + 1 => if (if on = true then to ≤ runsM s place on h else runsM s place on h ≤ to) then h else leastM s place on to (h + 1) n
noncomputable def ruledM (s : wSg) (place begins b : Nat) : Nat :=
  if begins - b ≤ place ∧ place ≤ begins then (begins - place) * thumbsM s else costsM s place begins (decide (place < begins - b)) (leastM s place (decide (place < begins - b)) (begins - b) 1 59)
noncomputable def ruleM (s : wSg) (b : Nat) : Nat → Nat → Nat
  | _, 0 => 0
  | i, n + 1 => (if s (216 + 4 * i) = s 0 then s (216 + 4 * i + 3) * ruledM s (s 1) (s (216 + 4 * i + 1)) b else 0) + ruleM s b (i + 1) n
