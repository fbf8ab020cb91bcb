/-! THE WALK OF ONE METHOD over the abstract world -/
/-- facts of the start that no method changes: the String constants, two statics -/
def wFacts (G : wG) (A : Nat → Prop) (U : State) (H : Heap) : Prop :=
  vk_S 23 wLen wByt (fun k => ga G (1000 + k)) (gV G) A U H ∧ (∀ q ∈ wStr, vk_R q.1 q.2.1 q.2.2.1 (ga G (1000 + q.2.2.2)) U) ∧ va_Z "java/lang/String" "COMPACT_STRINGS" "Z" (.int 1) A U H ∧ va_Zq "jdk/internal/util/Preconditions" "SIOOBE_FORMATTER" "Ljava/util/function/BiFunction;" A U H
theorem wFacts.kept {G : wG} {A : Nat → Prop} {U : State} {H H1 : Heap} (h : wFacts G A U H) (hq : ∀ a : Nat, a < H.size → ¬ A a → H1[a]? = H[a]?) : wFacts G A U H1 := ⟨h.1.kept hq, h.2.1, h.2.2.1.kept hq, h.2.2.2.kept hq⟩
theorem wFacts.narrow {G : wG} {A B : Nat → Prop} {U : State} {H : Heap} (h : wFacts G A U H) (hAB : ∀ q, B q → A q) : wFacts G B U H := ⟨h.1.narrow hAB, h.2.1, h.2.2.1.narrow hAB, h.2.2.2.narrow hAB⟩
theorem wFacts.warm {G : wG} {A : Nat → Prop} {s U : State} {H : Heap} (hW : s.WarmedH U.vm) (h : wFacts G A s H) : wFacts G A U H := ⟨h.1.moved hW.alike, fun q hq => (h.2.1 q hq).warm hW, h.2.2.1.moved hW.alike, h.2.2.2.moved hW.alike⟩
theorem wFacts.same {G : wG} {A : Nat → Prop} {u U : State} {H : Heap} (hv : U.vm = u.vm) (h : wFacts G A u H) : wFacts G A U H :=
  ⟨h.1.moved (by rw [hv]; exact Vm.Alike.refl _), fun q hq => (h.2.1 q hq).same hv, h.2.2.1.moved (by rw [hv]; exact Vm.Alike.refl _), h.2.2.2.moved (by rw [hv]; exact Vm.Alike.refl _)⟩
abbrev wX : Type := (Program × Launch × Env × Room × State) × (MethodId × Array Value × List Frame × Method × Code) × (State → Prop) × wG × ((Nat → Prop) × Heap) × (Option Value × wS) × (Nat × Nat)
abbrev xp (X : wX) : Program := X.1.1
abbrev xl (X : wX) : Launch := X.1.2.1
abbrev xe (X : wX) : Env := X.1.2.2.1
abbrev xR (X : wX) : Room := X.1.2.2.2.1
abbrev xs (X : wX) : State := X.1.2.2.2.2
abbrev xm (X : wX) : MethodId := X.2.1.1
abbrev xa (X : wX) : Array Value := X.2.1.2.1
abbrev xb (X : wX) : List Frame := X.2.1.2.2.1
abbrev xme (X : wX) : Method := X.2.1.2.2.2.1
abbrev xc (X : wX) : Code := X.2.1.2.2.2.2
abbrev xQ (X : wX) : State → Prop := X.2.2.1
abbrev xG (X : wX) : wG := X.2.2.2.1
abbrev xA (X : wX) : Nat → Prop := X.2.2.2.2.1.1
abbrev xH0 (X : wX) : Heap := X.2.2.2.2.1.2
abbrev xfin (X : wX) : Option Value × wS := X.2.2.2.2.2.1
abbrev xcl (X : wX) : Nat := X.2.2.2.2.2.2.1
abbrev xsl (X : wX) : Nat := X.2.2.2.2.2.2.2
def RepH (X : wX) (t : wS) (H : Heap) (locs : List Loc) : Prop := va_P (gD (xG X)) vwCl (w_world (xG X) t) H ∧ va_D (xA X) (w_world (xG X) t) ∧ va_S (xA X) (xH0 X) H locs
abbrev WW (X : wX) (H : Heap) (locs : List Loc) (g : JFrame) : Prop := W (xp X) (xl X) (xe X) (xR X) (xs X) (xm X) (xa X) (xb X) (xme X) (xc X) H locs (xcl X) (xsl X) (xQ X) g
def Go (nL : Nat) (X : wX) (pc : Nat) (ls : wL) (stk : List Value) (t : wS) : Prop := ∀ (H : Heap) (locs : List Loc) (lsA : Array Slot), RepH X t H locs → LsOK (ga (xG X)) nL ls lsA → WW X H locs (F0 (xm X) pc lsA (stk.map (cv (ga (xG X)))))
/-- the end of the method, with the answer that is due -/
def XRet (cc : ByteArray) (ret : Option FieldType) (X : wX) : Prop := ∀ (H : Heap) (locs : List Loc) (lsA : Array Slot) (pc : Nat), RepH X (xfin X).2 H locs →
  ((xfin X).1 = none → ret = none → decode cc pc = .ok (.return_, 1) → WW X H locs (F0 (xm X) pc lsA [])) ∧
  (∀ (v : Int32) (ty : FieldType), (xfin X).1 = some (.int v) → ret = some ty → narrow ty (.int v) = .int v → decode cc pc = .ok (.ireturn, 1) → WW X H locs (F0 (xm X) pc lsA [.int v])) ∧
  (∀ v : Int64, (xfin X).1 = some (.long v) → ret = some .long → decode cc pc = .ok (.lreturn, 1) → WW X H locs (F0 (xm X) pc lsA [.long v]))
def CX (own : String) (cc : ByteArray) (nL : Nat) (ret : Option FieldType) (d : Nat) (X : wX) : Prop :=
  (xp X).tables.exec = Jvm.exec ∧ (xc X).code = cc ∧ (xc X).maxLocals = nL ∧ (xs X).vm.findClass own = some (xm X).cls ∧ (∀ w ∈ w_ws, w.before (xa X) (xs X) = true) ∧ va_K (gD (xG X)) vwCl (wtys (xG X)) (xs X) ∧
  (d ≤ (xR X).frames ∧ 100 * d ≤ (xR X).locals ∧ 0 < d) ∧ (xcl X ≤ (xR X).cells ∧ xsl X ≤ (xR X).slots) ∧ wFacts (xG X) (xA X) (xs X) (xs X).heap ∧ (∀ q, (xH0 X).size ≤ q → xA X q) ∧ xH0 X = (xs X).heap ∧ XRet cc ret X
section ROWS
variable {own : String} {cc : ByteArray} {nL : Nat} {ret : Option FieldType} {d : Nat} {X : wX} {pc : Nat} {ls : wL} {stk : List Value} {t : wS}
theorem CX.x (h : CX own cc nL ret d X) : (xp X).tables.exec = Jvm.exec := h.1
theorem CX.b (h : CX own cc nL ret d X) : (xc X).code = cc := h.2.1
theorem CX.ml (h : CX own cc nL ret d X) : (xc X).maxLocals = nL := h.2.2.1
theorem CX.ow (h : CX own cc nL ret d X) : (xs X).vm.findClass own = some (xm X).cls := h.2.2.2.1
theorem CX.ts (h : CX own cc nL ret d X) : ∀ w ∈ w_ws, w.before (xa X) (xs X) = true := h.2.2.2.2.1
theorem CX.K (h : CX own cc nL ret d X) : va_K (gD (xG X)) vwCl (wtys (xG X)) (xs X) := h.2.2.2.2.2.1
theorem CX.room (h : CX own cc nL ret d X) : d ≤ (xR X).frames ∧ 100 * d ≤ (xR X).locals ∧ 0 < d := h.2.2.2.2.2.2.1
theorem CX.space (h : CX own cc nL ret d X) : xcl X ≤ (xR X).cells ∧ xsl X ≤ (xR X).slots := h.2.2.2.2.2.2.2.1
theorem CX.facts (h : CX own cc nL ret d X) : wFacts (xG X) (xA X) (xs X) (xs X).heap := h.2.2.2.2.2.2.2.2.1
theorem CX.hA (h : CX own cc nL ret d X) : ∀ q, (xH0 X).size ≤ q → xA X q := h.2.2.2.2.2.2.2.2.2.1
theorem CX.H0 (h : CX own cc nL ret d X) : xH0 X = (xs X).heap := h.2.2.2.2.2.2.2.2.2.2.1
theorem CX.rt (h : CX own cc nL ret d X) : XRet cc ret X := h.2.2.2.2.2.2.2.2.2.2.2
end ROWS
def wcat (stk : List Value) : Nat := (stk.map (fun v => v.category)).sum
theorem cv_cat (al : Nat → Nat) (v : Value) : (cv al v).category = v.category := by cases v <;> rfl
theorem wcat_cv (al : Nat → Nat) (stk : List Value) : ((stk.map (cv al)).map (fun v => v.category)).sum = wcat stk := by
  unfold wcat
  induction stk with
  | nil => rfl
  | cons a l ih => simp only [List.map_cons, List.sum_cons, cv_cat, ih]
theorem wcat_cons (v : Value) (stk : List Value) : wcat (v :: stk) = v.category + wcat stk := by simp [wcat]
def CmpE (nL : Nat) (X : wX) (w pc p1 : Nat) (e : wEI) : Prop := ∀ (ls : wL) (stk : List Value) (t : wS) (v : Int32) (t1 : wS), e ls t = some (v, t1) → wcat stk ≤ w → Go nL X p1 ls (.int v :: stk) t1 → Go nL X pc ls stk t
def CmpR (nL : Nat) (X : wX) (w pc p1 : Nat) (e : wER) : Prop := ∀ (ls : wL) (stk : List Value) (t : wS) (v : Nat) (t1 : wS), e ls t = some (v, t1) → wcat stk ≤ w → Go nL X p1 ls (.ref v :: stk) t1 → Go nL X pc ls stk t
def CmpL (nL : Nat) (X : wX) (w pc p1 : Nat) (e : wEL) : Prop := ∀ (ls : wL) (stk : List Value) (t : wS) (v : Int64) (t1 : wS), e ls t = some (v, t1) → wcat stk ≤ w → Go nL X p1 ls (.long v :: stk) t1 → Go nL X pc ls stk t
def CmpC (nL : Nat) (X : wX) (w pc pT pF : Nat) (e : wC) : Prop := ∀ (ls : wL) (stk : List Value) (t : wS) (v : Bool) (t1 : wS), e ls t = some (v, t1) → wcat stk ≤ w → (v = true → Go nL X pT ls stk t1) → (v = false → Go nL X pF ls stk t1) → Go nL X pc ls stk t
/-- arguments: each of one slot -/
def CmpA (nL : Nat) (X : wX) (w pc p1 : Nat) (e : wAr) : Prop := ∀ (ls : wL) (stk : List Value) (t : wS) (vs : List Value) (t1 : wS), e ls t = some (vs, t1) → wcat stk ≤ w → Go nL X p1 ls (vs.reverse ++ stk) t1 → Go nL X pc ls stk t
def wPost (nL : Nat) (X : wX) (p1 pB pC : Nat) (o : wO) : Prop := (o.1 = 0 → Go nL X p1 o.2.2.1 [] o.2.2.2) ∧ (o.1 = 1 → Go nL X pB o.2.2.1 [] o.2.2.2) ∧ (o.1 = 2 → Go nL X pC o.2.2.1 [] o.2.2.2) ∧ (o.1 = 3 → xfin X = (o.2.1, o.2.2.2))
def CmpS (nL : Nat) (X : wX) (pc p1 pB pC : Nat) (e : wSt) : Prop := ∀ (ls : wL) (t : wS) (o : wO), e ls t = some o → wPost nL X p1 pB pC o → Go nL X pc ls [] t
