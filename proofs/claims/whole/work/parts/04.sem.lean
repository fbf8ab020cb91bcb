/-! THE ABSTRACT WORLD: cells by number; ints and references of each cell as functions -/
abbrev wS : Type := (Nat → Nat → Int32) × (Nat → Nat → Nat)
abbrev wL : Type := List Value
/-! what is written -/
def wUI (t : wS) (c i : Nat) (v : Int32) : wS := (fun k => if k = c then upd (t.1 c) i v else t.1 k, t.2)
def wUR (t : wS) (c i r : Nat) : wS := (t.1, fun k => if k = c then va_up (t.2 c) i r else t.2 k)
def wUC (t : wS) (c : Nat) (f : Nat → Int32) : wS := (fun k => if k = c then f else t.1 k, t.2)
/-- no value: an empty place of the locals -/
def wjk : Value := .retAddr 0
def wStr : List (String × Nat × String × Nat) := [("WoundTape$Tokens", 61, ";+-*/()<=>", 0), ("WoundTape$Tokens", 72, "song wants gap turn speed late slip when or and not at full on hold side stops back hear again after ", 1), ("WoundTapeModel", 114, "song", 2), ("WoundTapeModel", 120, "wants", 3), ("WoundTapeModel", 122, "gap", 4), ("WoundTapeModel", 124, "turn", 5), ("WoundTapeModel", 137, "when", 6), ("WoundTapeModel", 139, "or", 7), ("WoundTapeModel", 141, "and", 8), ("WoundTapeModel", 143, "not", 9), ("WoundTapeModel", 145, "speed", 10), ("WoundTapeModel", 147, "late", 11), ("WoundTapeModel", 149, "slip", 12), ("WoundTapeModel", 126, "at", 13), ("WoundTapeModel", 127, "full", 14), ("WoundTapeModel", 129, "on", 15), ("WoundTapeModel", 131, "hold", 16), ("WoundTapeModel", 133, "side", 17), ("WoundTapeModel", 135, "stops", 18), ("WoundTapeModel", 154, "back", 19), ("WoundTapeModel", 155, "hear", 20), ("WoundTapeModel", 157, "again", 21), ("WoundTapeModel", 159, "after", 22)]
def wLen : List Nat := [10, 101, 4, 5, 3, 4, 4, 2, 3, 3, 5, 4, 4, 2, 4, 2, 4, 4, 5, 4, 4, 5, 5]
def wByt : List (List Int32) := [[59, 43, 45, 42, 47, 40, 41, 60, 61, 62], [115, 111, 110, 103, 32, 119, 97, 110, 116, 115, 32, 103, 97, 112, 32, 116, 117, 114, 110, 32, 115, 112, 101, 101, 100, 32, 108, 97, 116, 101, 32, 115, 108, 105, 112, 32, 119, 104, 101, 110, 32, 111, 114, 32, 97, 110, 100, 32, 110, 111, 116, 32, 97, 116, 32, 102, 117, 108, 108, 32, 111, 110, 32, 104, 111, 108, 100, 32, 115, 105, 100, 101, 32, 115, 116, 111, 112, 115, 32, 98, 97, 99, 107, 32, 104, 101, 97, 114, 32, 97, 103, 97, 105, 110, 32, 97, 102, 116, 101, 114, 32], [115, 111, 110, 103], [119, 97, 110, 116, 115], [103, 97, 112], [116, 117, 114, 110], [119, 104, 101, 110], [111, 114], [97, 110, 100], [110, 111, 116], [115, 112, 101, 101, 100], [108, 97, 116, 101], [115, 108, 105, 112], [97, 116], [102, 117, 108, 108], [111, 110], [104, 111, 108, 100], [115, 105, 100, 101], [115, 116, 111, 112, 115], [98, 97, 99, 107], [104, 101, 97, 114], [97, 103, 97, 105, 110], [97, 102, 116, 101, 114]]
/-! semantic words -/
abbrev wEI : Type := wL → wS → Option (Int32 × wS)
abbrev wER : Type := wL → wS → Option (Nat × wS)
abbrev wEL : Type := wL → wS → Option (Int64 × wS)
abbrev wC : Type := wL → wS → Option (Bool × wS)
abbrev wAr : Type := wL → wS → Option (List Value × wS)
/-- how a statement ends: 0 on, 1 break, 2 continue, 3 return; its answer; locals, cells -/
abbrev wO : Type := Nat × Option Value × wL × wS
abbrev wSt : Type := wL → wS → Option wO
abbrev wM : Type := List Value → wS → Option (Option Value × wS)
theorem ob_some {α β : Type} {x : Option α} {f : α → Option β} {y : β} (h : x.bind f = some y) : ∃ a, x = some a ∧ f a = some y := by
  cases x with
  | none => cases h
  | some a => exact ⟨a, rfl, h⟩
/-! expressions of ints -/
def eI (v : Int32) : wEI := fun _ t => some (v, t)
def eLoc (k : Nat) : wEI := fun ls t => match ls[k]? with
  | some (.int v) => some (v, t)
  | _ => none
def eLocR (k : Nat) : wER := fun ls t => match ls[k]? with
  | some (.ref v) => some (v, t)
  | _ => none
def eLocL (k : Nat) : wEL := fun ls t => match ls[k]?, ls[k + 1]? with
  | some (.long v), some (.retAddr 0) => some (v, t)
  | _, _ => none
def wIn (i : Int32) (n : Nat) : Bool := !(decide (i < 0)) && decide (i.toNatClampNeg < n)
theorem wIn_in {i : Int32} {n : Nat} (h : wIn i n = true) : vp_in i n := by
  unfold wIn at h
  simp only [Bool.and_eq_true, Bool.not_eq_true', decide_eq_false_iff_not, decide_eq_true_eq] at h
  rintro (q | q)
  · exact h.1 q
  · omega
def eFld (sh : Nat → Nat × Nat) (ci k : Nat) (a : wER) : wEI := fun ls t => (a ls t).bind fun p => if sh p.1 = (0, ci) then some (p.2.1 p.1 k, p.2) else none
/-- a reference 5000 is null: it is never read -/
def eFldR (sh : Nat → Nat × Nat) (ci k : Nat) (a : wER) : wER := fun ls t => (a ls t).bind fun p => if sh p.1 = (0, ci) ∧ ¬ p.2.2 p.1 k = 5000 then some (p.2.2 p.1 k, p.2) else none
def eArr (sh : Nat → Nat × Nat) (a : wER) (i : wEI) : wEI := fun ls t => (a ls t).bind fun p => (i ls p.2).bind fun q => if (sh p.1).1 = 1 ∧ wIn q.1 (sh p.1).2 = true then some (q.2.1 p.1 q.1.toNatClampNeg, q.2) else none
def eArrR (sh : Nat → Nat × Nat) (a : wER) (i : wEI) : wER := fun ls t => (a ls t).bind fun p => (i ls p.2).bind fun q => if ((sh p.1).1 = 2 ∨ (sh p.1).1 = 3) ∧ wIn q.1 (sh p.1).2 = true ∧ ¬ q.2.2 p.1 q.1.toNatClampNeg = 5000 then some (q.2.2 p.1 q.1.toNatClampNeg, q.2) else none
def eLen (sh : Nat → Nat × Nat) (a : wER) : wEI := fun ls t => (a ls t).bind fun p => if (sh p.1).1 = 1 then some (Int32.ofNat (sh p.1).2, p.2) else none
def eB (op : Int32 → Int32 → Int32) (a b : wEI) : wEI := fun ls t => (a ls t).bind fun p => (b ls p.2).bind fun q => some (op p.1 q.1, q.2)
def eD (op : Int32 → Int32 → Int32) (a b : wEI) : wEI := fun ls t => (a ls t).bind fun p => (b ls p.2).bind fun q => if q.1 = 0 then none else some (op p.1 q.1, q.2)
def eU (op : Int32 → Int32) (a : wEI) : wEI := fun ls t => (a ls t).bind fun p => some (op p.1, p.2)
def oAdd (x y : Int32) : Int32 := x + y
def oSub (x y : Int32) : Int32 := x - y
def oMul (x y : Int32) : Int32 := x * y
def oAnd (x y : Int32) : Int32 := x &&& y
def oOr (x y : Int32) : Int32 := x ||| y
def oXor (x y : Int32) : Int32 := x ^^^ y
def oShl (x y : Int32) : Int32 := x <<< (y &&& 31)
def oShr (x y : Int32) : Int32 := x >>> (y &&& 31)
def oUshr (x y : Int32) : Int32 := (x.toUInt32 >>> (y.toUInt32 &&& Int32.toUInt32 31)).toInt32
def oDiv (x y : Int32) : Int32 := x / y
def oRem (x y : Int32) : Int32 := x - x / y * y
def oNeg (x : Int32) : Int32 := -x
def oI2c (x : Int32) : Int32 := (x.toUInt32 % 65536).toInt32
def oMax (x y : Int32) : Int32 := if x < y then y else x
def oMin (x y : Int32) : Int32 := if y < x then y else x
def oAbs (x : Int32) : Int32 := if 0 ≤ x then x else 0 - x
def eIf (c : wC) (a b : wEI) : wEI := fun ls t => (c ls t).bind fun p => if p.1 = true then a ls p.2 else b ls p.2
def eIfL (c : wC) (a b : wEL) : wEL := fun ls t => (c ls t).bind fun p => if p.1 = true then a ls p.2 else b ls p.2
def eBo (c : wC) : wEI := fun ls t => (c ls t).bind fun p => some (if p.1 = true then 1 else 0, p.2)
def eCall (f : wM) (a : wAr) : wEI := fun ls t => (a ls t).bind fun p => (f p.1 p.2).bind fun q => match q.1 with
  | some (.int v) => some (v, q.2)
  | _ => none
def eCallL (f : wM) (a : wAr) : wEL := fun ls t => (a ls t).bind fun p => (f p.1 p.2).bind fun q => match q.1 with
  | some (.long v) => some (v, q.2)
  | _ => none
def aN : wAr := fun _ t => some ([], t)
def aI (e : wEI) (r : wAr) : wAr := fun ls t => (e ls t).bind fun p => (r ls p.2).bind fun q => some (.int p.1 :: q.1, q.2)
def aR (e : wER) (r : wAr) : wAr := fun ls t => (e ls t).bind fun p => (r ls p.2).bind fun q => some (.ref p.1 :: q.1, q.2)
/-- the receiver is an object of that class -/
def aO (sh : Nat → Nat × Nat) (ci : Nat) (e : wER) (r : wAr) : wAr := fun ls t => (e ls t).bind fun p => if sh p.1 = (0, ci) then (r ls p.2).bind fun q => some (.ref p.1 :: q.1, q.2) else none
def eStr (k : Nat) : wER := fun _ t => some (1000 + k, t)
/-- String.length, charAt, indexOf of a String constant -/
def eSLen (a : wER) : wEI := fun ls t => (a ls t).bind fun p => if 1000 ≤ p.1 ∧ p.1 < 1023 then some (Int32.ofNat (wLen.getD (p.1 - 1000) 0), p.2) else none
def eSAt (a : wER) (i : wEI) : wEI := fun ls t => (a ls t).bind fun p => (i ls p.2).bind fun q => if 1000 ≤ p.1 ∧ p.1 < 1023 ∧ wIn q.1 (wLen.getD (p.1 - 1000) 0) = true then some ((wByt.getD (p.1 - 1000) []).getD q.1.toNatClampNeg 0, q.2) else none
def wIdx (c : Int32) : List Int32 → Nat → Int32
  | [], _ => -1
  | b :: l, k => if b = c then Int32.ofNat k else wIdx c l (k + 1)
def eSIdx (a : wER) (i : wEI) : wEI := fun ls t => (a ls t).bind fun p => (i ls p.2).bind fun q => if 1000 ≤ p.1 ∧ p.1 < 1023 then some (wIdx q.1 (wByt.getD (p.1 - 1000) []) 0, q.2) else none
def eLI (v : Int64) : wEL := fun _ t => some (v, t)
def eI2L (a : wEI) : wEL := fun ls t => (a ls t).bind fun p => some (p.1.toInt64, p.2)
def eLB (op : Int64 → Int64 → Int64) (a b : wEL) : wEL := fun ls t => (a ls t).bind fun p => (b ls p.2).bind fun q => some (op p.1 q.1, q.2)
def oLAdd (x y : Int64) : Int64 := x + y
def oLMul (x y : Int64) : Int64 := x * y
/-! conditions -/
def wcmp (c : ClassFile.Cond) (x y : Int32) : Bool := match c with
  | .eq => decide (x = y)
  | .ne => !decide (x = y)
  | .lt => decide (x < y)
  | .ge => decide (y ≤ x)
  | .gt => decide (y < x)
  | .le => decide (x ≤ y)
def wneg (c : ClassFile.Cond) : ClassFile.Cond := match c with
  | .eq => .ne
  | .ne => .eq
  | .lt => .ge
  | .ge => .lt
  | .gt => .le
  | .le => .gt
theorem i_nlt {x y : Int32} : ¬ x < y ↔ y ≤ x := by rw [Int32.lt_iff_toInt_lt, Int32.le_iff_toInt_le]; omega
theorem i_nle {x y : Int32} : ¬ x ≤ y ↔ y < x := by rw [Int32.lt_iff_toInt_lt, Int32.le_iff_toInt_le]; omega
theorem wcmp_neg (c : ClassFile.Cond) (x y : Int32) : wcmp (wneg c) x y = !wcmp c x y := by
  cases c <;> simp only [wcmp, wneg, Bool.not_not] <;> by_cases h : x < y <;> by_cases g : y < x <;> simp [h, g, ← i_nlt]
def cI (c : ClassFile.Cond) (a b : wEI) : wC := fun ls t => (a ls t).bind fun p => (b ls p.2).bind fun q => some (wcmp c p.1 q.1, q.2)
def cZ (c : ClassFile.Cond) (a : wEI) : wC := fun ls t => (a ls t).bind fun p => some (wcmp c p.1 0, p.2)
def cL (c : ClassFile.Cond) (a b : wEL) : wC := fun ls t => (a ls t).bind fun p => (b ls p.2).bind fun q => some (wcmp c (lg_cmp p.1 q.1) 0, q.2)
def cAnd (a b : wC) : wC := fun ls t => (a ls t).bind fun p => if p.1 = true then b ls p.2 else some (false, p.2)
def cOr (a b : wC) : wC := fun ls t => (a ls t).bind fun p => if p.1 = true then some (true, p.2) else b ls p.2
def cNot (a : wC) : wC := fun ls t => (a ls t).bind fun p => some (!p.1, p.2)
def cIf (c a b : wC) : wC := fun ls t => (c ls t).bind fun p => if p.1 = true then a ls p.2 else b ls p.2
/-! statements -/
def sSkip : wSt := fun ls t => some (0, none, ls, t)
def sSeq (a b : wSt) : wSt := fun ls t => (a ls t).bind fun o => if o.1 = 0 then b o.2.2.1 o.2.2.2 else some o
def sLoc (k : Nat) (e : wEI) : wSt := fun ls t => (e ls t).bind fun p => some (0, none, ls.set k (.int p.1), p.2)
def sLocR (k : Nat) (e : wER) : wSt := fun ls t => (e ls t).bind fun p => some (0, none, ls.set k (.ref p.1), p.2)
def sLocL (k : Nat) (e : wEL) : wSt := fun ls t => (e ls t).bind fun p => some (0, none, (ls.set k (.long p.1)).set (k + 1) wjk, p.2)
def sInc (k : Nat) (n : Int) : wSt := fun ls t => match ls[k]? with
  | some (.int v) => some (0, none, ls.set k (.int (v + Int32.ofInt n)), t)
  | _ => none
def sPut (sh : Nat → Nat × Nat) (ci k : Nat) (a : wER) (e : wEI) : wSt := fun ls t => (a ls t).bind fun p => (e ls p.2).bind fun q => if sh p.1 = (0, ci) then some (0, none, ls, wUI q.2 p.1 k q.1) else none
def sPutZ (sh : Nat → Nat × Nat) (ci k : Nat) (a : wER) (e : wEI) : wSt := fun ls t => (a ls t).bind fun p => (e ls p.2).bind fun q => if sh p.1 = (0, ci) ∧ (q.1 = 0 ∨ q.1 = 1) then some (0, none, ls, wUI q.2 p.1 k q.1) else none
/-- r.f = r.f op e -/
def sPutO (sh : Nat → Nat × Nat) (ci k : Nat) (a : wER) (op : Int32 → Int32 → Int32) (e : wEI) : wSt := fun ls t => (a ls t).bind fun p => if sh p.1 = (0, ci) then (e ls p.2).bind fun q => some (0, none, ls, wUI q.2 p.1 k (op (p.2.1 p.1 k) q.1)) else none
def sAst (sh : Nat → Nat × Nat) (a : wER) (i e : wEI) : wSt := fun ls t => (a ls t).bind fun p => (i ls p.2).bind fun q => (e ls q.2).bind fun r => if (sh p.1).1 = 1 ∧ wIn q.1 (sh p.1).2 = true then some (0, none, ls, wUI r.2 p.1 q.1.toNatClampNeg r.1) else none
def sAstO (sh : Nat → Nat × Nat) (a : wER) (i : wEI) (op : Int32 → Int32 → Int32) (e : wEI) : wSt := fun ls t => (a ls t).bind fun p => (i ls p.2).bind fun q => if (sh p.1).1 = 1 ∧ wIn q.1 (sh p.1).2 = true then (e ls q.2).bind fun r => some (0, none, ls, wUI r.2 p.1 q.1.toNatClampNeg (op (q.2.1 p.1 q.1.toNatClampNeg) r.1)) else none
def sAstD (sh : Nat → Nat × Nat) (a : wER) (i : wEI) (op : Int32 → Int32 → Int32) (e : wEI) : wSt := fun ls t => (a ls t).bind fun p => (i ls p.2).bind fun q => if (sh p.1).1 = 1 ∧ wIn q.1 (sh p.1).2 = true then (e ls q.2).bind fun r => if r.1 = 0 then none else some (0, none, ls, wUI r.2 p.1 q.1.toNatClampNeg (op (q.2.1 p.1 q.1.toNatClampNeg) r.1)) else none
def sAstR (sh : Nat → Nat × Nat) (ci : Nat) (a : wER) (i : wEI) (e : wER) : wSt := fun ls t => (a ls t).bind fun p => (i ls p.2).bind fun q => (e ls q.2).bind fun r => if (sh p.1).1 = 3 ∧ wIn q.1 (sh p.1).2 = true ∧ sh r.1 = (0, ci) ∧ ¬ r.1 = 5000 then some (0, none, ls, wUR r.2 p.1 q.1.toNatClampNeg r.1) else none
def sIf (c : wC) (a b : wSt) : wSt := fun ls t => (c ls t).bind fun p => if p.1 = true then a ls p.2 else b ls p.2
/-- while (c) b, with u behind each round -/
def sWh (c : wC) (b u : wSt) : Nat → wSt
  | 0 => fun _ _ => none
  | k + 1 => fun ls t => (c ls t).bind fun p => if p.1 = true then (b ls p.2).bind fun o => if o.1 = 1 then some (0, none, o.2.2.1, o.2.2.2) else if o.1 = 3 then some o else (u o.2.2.1 o.2.2.2).bind fun q => if q.1 = 0 then sWh c b u k q.2.2.1 q.2.2.2 else none else some (0, none, ls, p.2)
def sRet (e : wEI) : wSt := fun ls t => (e ls t).bind fun p => some (3, some (.int p.1), ls, p.2)
def sRetZ (e : wEI) : wSt := fun ls t => (e ls t).bind fun p => if p.1 = 0 ∨ p.1 = 1 then some (3, some (.int p.1), ls, p.2) else none
def sRetL (e : wEL) : wSt := fun ls t => (e ls t).bind fun p => some (3, some (.long p.1), ls, p.2)
def sRetV : wSt := fun ls t => some (3, none, ls, t)
def sBrk : wSt := fun ls t => some (1, none, ls, t)
def sCon : wSt := fun ls t => some (2, none, ls, t)
def sCall (f : wM) (a : wAr) : wSt := fun ls t => (a ls t).bind fun p => (f p.1 p.2).bind fun q => match q.1 with
  | none => some (0, none, ls, q.2)
  | _ => none
/-- an answer that nobody takes -/
def sDrop (e : wEI) : wSt := fun ls t => (e ls t).bind fun p => some (0, none, ls, p.2)
def sCopy (sh : Nat → Nat × Nat) (a : wER) (i : wEI) (b : wER) (j n : wEI) : wSt := fun ls t => (a ls t).bind fun p => (i ls p.2).bind fun q => (b ls q.2).bind fun r => (j ls r.2).bind fun z => (n ls z.2).bind fun y =>
  if (sh p.1).1 = 1 ∧ (sh r.1).1 = 1 ∧ ¬ q.1 < 0 ∧ ¬ z.1 < 0 ∧ ¬ y.1 < 0 ∧ q.1.toNatClampNeg + y.1.toNatClampNeg ≤ (sh p.1).2 ∧ z.1.toNatClampNeg + y.1.toNatClampNeg ≤ (sh r.1).2 then some (0, none, ls, wUC y.2 r.1 (va_cpy (y.2.1 p.1) (y.2.1 r.1) q.1.toNatClampNeg z.1.toNatClampNeg y.1.toNatClampNeg)) else none
def wSwF (x : Int32) : List (Int32 × wSt) → wSt → wSt
  | [], d => d
  | (k, b) :: r, d => if x = k then b else wSwF x r d
/-- switch (e), each case ending by return or break -/
def sSw (e : wEI) (cs : List (Int32 × wSt)) (d : wSt) : wSt := fun ls t => (e ls t).bind fun p => (wSwF p.1 cs d ls p.2).bind fun o => if o.1 = 1 then some (0, none, o.2.2.1, o.2.2.2) else some o
def wIR (v : Value) : Bool := match v with
  | .int _ => true
  | .ref _ => true
  | _ => false
/-- a method: nL places of locals -/
def mDen (nL : Nat) (b : wSt) : wM := fun vs t => if vs.length ≤ nL ∧ vs.all wIR = true then (b (vs ++ List.replicate (nL - vs.length) wjk) t).bind fun o => if o.1 = 3 then some (o.2.1, o.2.2.2) else none else none
