/-! MEANINGS, RUN: first-order continuations, so that one simp runs a body -/
def EX {α : Type} (o : Option α) (Q : α → Prop) : Prop := ∃ p, o = some p ∧ Q p
theorem EX_bind {α β : Type} (x : Option α) (f : α → Option β) (Q : β → Prop) : EX (x.bind f) Q = EX x (fun p => EX (f p) Q) := by
  unfold EX
  cases x with
  | none => simp
  | some a => simp
theorem EX_some {α : Type} (a : α) (Q : α → Prop) : EX (some a) Q = Q a := by simp [EX]
theorem EX_none {α : Type} (Q : α → Prop) : EX none Q = False := by simp [EX]
theorem EX_ite {α : Type} (c : Prop) (hc : Decidable c) (a b : Option α) (Q : α → Prop) : EX (@ite _ c hc a b) Q = @ite _ c hc (EX a Q) (EX b Q) := by by_cases h : c <;> simp [h]
theorem EX_mono {α : Type} {o : Option α} {Q R : α → Prop} (h : EX o Q) (k : ∀ p, Q p → R p) : EX o R := by
  obtain ⟨p, h1, h2⟩ := h
  exact ⟨p, h1, k p h2⟩
theorem ite_none {c : Prop} (hc : Decidable c) (a : Prop) : (@ite _ c hc a False) = (c ∧ a) := by by_cases h : c <;> simp [h]
def PE (e : wEI) (ls : wL) (t : wS) (Q : Int32 → wS → Prop) : Prop := EX (e ls t) (fun p => Q p.1 p.2)
def PR (e : wER) (ls : wL) (t : wS) (Q : Nat → wS → Prop) : Prop := EX (e ls t) (fun p => Q p.1 p.2)
def PL (e : wEL) (ls : wL) (t : wS) (Q : Int64 → wS → Prop) : Prop := EX (e ls t) (fun p => Q p.1 p.2)
def PC (e : wC) (ls : wL) (t : wS) (Q : Bool → wS → Prop) : Prop := EX (e ls t) (fun p => Q p.1 p.2)
def PA (e : wAr) (ls : wL) (t : wS) (Q : List Value → wS → Prop) : Prop := EX (e ls t) (fun p => Q p.1 p.2)
def PS (s : wSt) (ls : wL) (t : wS) (Q : Nat → Option Value → wL → wS → Prop) : Prop := EX (s ls t) (fun o => Q o.1 o.2.1 o.2.2.1 o.2.2.2)
def PM (f : wM) (vs : List Value) (t : wS) (Q : Option Value → wS → Prop) : Prop := EX (f vs t) (fun p => Q p.1 p.2)
theorem PM_of {f : wM} {vs : List Value} {t u : wS} {r : Option Value} (h : f vs t = some (r, u)) (Q : Option Value → wS → Prop) : PM f vs t Q = Q r u := by unfold PM; rw [h, EX_some]
theorem PM_mono {f : wM} {vs : List Value} {t : wS} {Q R : Option Value → wS → Prop} (h : PM f vs t Q) (k : ∀ r u, Q r u → R r u) : PM f vs t R := EX_mono h (fun p => k p.1 p.2)
theorem PS_mono {s : wSt} {ls : wL} {t : wS} {Q R : Nat → Option Value → wL → wS → Prop} (h : PS s ls t Q) (k : ∀ n a l u, Q n a l u → R n a l u) : PS s ls t R := EX_mono h (fun p => k p.1 p.2.1 p.2.2.1 p.2.2.2)
theorem PE_mono {s : wEI} {ls : wL} {t : wS} {Q R : Int32 → wS → Prop} (h : PE s ls t Q) (k : ∀ n u, Q n u → R n u) : PE s ls t R := EX_mono h (fun p => k p.1 p.2)
/-! the memory of ints -/
abbrev wMm : Type := Nat → Nat → Int32
def mU (m : wMm) (c i : Nat) (v : Int32) : wMm := fun k => if k = c then upd (m c) i v else m k
def mC (m : wMm) (c : Nat) (f : Nat → Int32) : wMm := fun k => if k = c then f else m k
theorem wUI_mk (m : wMm) (r : Nat → Nat → Nat) (c i : Nat) (v : Int32) : wUI (m, r) c i v = (mU m c i v, r) := rfl
theorem wUC_mk (m : wMm) (r : Nat → Nat → Nat) (c : Nat) (f : Nat → Int32) : wUC (m, r) c f = (mC m c f, r) := rfl
def rU (r : Nat → Nat → Nat) (c i v : Nat) : Nat → Nat → Nat := fun k => if k = c then va_up (r c) i v else r k
theorem wUR_mk (m : wMm) (r : Nat → Nat → Nat) (c i v : Nat) : wUR (m, r) c i v = (m, rU r c i v) := rfl
theorem mU_at (m : wMm) (c i : Nat) (v : Int32) (c' j : Nat) : mU m c i v c' j = if c' = c then (if j = i then v else m c j) else m c' j := by
  unfold mU upd
  by_cases h : c' = c <;> simp [h]
theorem mC_at (m : wMm) (c : Nat) (f : Nat → Int32) (c' j : Nat) : mC m c f c' j = if c' = c then f j else m c' j := by
  unfold mC
  by_cases h : c' = c <;> simp [h]
theorem mU_ne {m : wMm} {c i : Nat} {v : Int32} {c' : Nat} (h : c' ≠ c) : mU m c i v c' = m c' := if_neg h
theorem mC_ne {m : wMm} {c : Nat} {f : Nat → Int32} {c' : Nat} (h : c' ≠ c) : mC m c f c' = m c' := if_neg h
theorem mC_eq (m : wMm) (c : Nat) (f : Nat → Int32) : mC m c f c = f := if_pos rfl
/-! an int of Java as J of an Int -/
def J (x : Int) : Int32 := Int32.ofInt x
theorem J_eta (v : Int32) : J v.toInt = v := Int32.ofInt_toInt v
theorem J_ofNat (n : Nat) : Int32.ofNat n = J (n : Int) := Int32.ofInt_eq_ofNat.symm
/-! continuations -/
abbrev kI : Type := Int32 → wS → Prop
abbrev kS : Type := Nat → Option Value → wL → wS → Prop
def kB2 (op : Int32 → Int32 → Int32) (x : Int32) (Q : kI) : kI := fun y t => Q (op x y) t
def kB (op : Int32 → Int32 → Int32) (b : wEI) (ls : wL) (Q : kI) : kI := fun x t => PE b ls t (kB2 op x Q)
def kD2 (op : Int32 → Int32 → Int32) (x : Int32) (Q : kI) : kI := fun y t => ¬ y = 0 ∧ Q (op x y) t
def kD (op : Int32 → Int32 → Int32) (b : wEI) (ls : wL) (Q : kI) : kI := fun x t => PE b ls t (kD2 op x Q)
def kU (op : Int32 → Int32) (Q : kI) : kI := fun x t => Q (op x) t
def kFld (sh : Nat → Nat × Nat) (ci k : Nat) (Q : kI) : Nat → wS → Prop := fun c t => sh c = (0, ci) ∧ Q (t.1 c k) t
def kFldR (sh : Nat → Nat × Nat) (ci k : Nat) (Q : Nat → wS → Prop) : Nat → wS → Prop := fun c t => sh c = (0, ci) ∧ ¬ t.2 c k = 5000 ∧ Q (t.2 c k) t
def kArr2 (sh : Nat → Nat × Nat) (c : Nat) (Q : kI) : kI := fun j t => (sh c).1 = 1 ∧ wIn j (sh c).2 = true ∧ Q (t.1 c j.toNatClampNeg) t
def kArr (sh : Nat → Nat × Nat) (i : wEI) (ls : wL) (Q : kI) : Nat → wS → Prop := fun c t => PE i ls t (kArr2 sh c Q)
def kArrR2 (sh : Nat → Nat × Nat) (c : Nat) (Q : Nat → wS → Prop) : kI := fun j t => ((sh c).1 = 2 ∨ (sh c).1 = 3) ∧ wIn j (sh c).2 = true ∧ ¬ t.2 c j.toNatClampNeg = 5000 ∧ Q (t.2 c j.toNatClampNeg) t
def kArrR (sh : Nat → Nat × Nat) (i : wEI) (ls : wL) (Q : Nat → wS → Prop) : Nat → wS → Prop := fun c t => PE i ls t (kArrR2 sh c Q)
def kLen (sh : Nat → Nat × Nat) (Q : kI) : Nat → wS → Prop := fun c t => (sh c).1 = 1 ∧ Q (J ((sh c).2 : Nat)) t
def kEIf (a b : wEI) (ls : wL) (Q : kI) : Bool → wS → Prop := fun v t => if v = true then PE a ls t Q else PE b ls t Q
def kEIfL (a b : wEL) (ls : wL) (Q : Int64 → wS → Prop) : Bool → wS → Prop := fun v t => if v = true then PL a ls t Q else PL b ls t Q
def kBo (Q : kI) : Bool → wS → Prop := fun v t => Q (J (if v = true then 1 else 0)) t
def kRI (Q : kI) : Option Value → wS → Prop := fun r t => match r with
  | some (.int v) => Q v t
  | _ => False
def kRL (Q : Int64 → wS → Prop) : Option Value → wS → Prop := fun r t => match r with
  | some (.long v) => Q v t
  | _ => False
def kRN (ls : wL) (Q : kS) : Option Value → wS → Prop := fun r t => match r with
  | none => Q 0 none ls t
  | _ => False
def kCall (f : wM) (Q : kI) : List Value → wS → Prop := fun vs t => PM f vs t (kRI Q)
def kCallL (f : wM) (Q : Int64 → wS → Prop) : List Value → wS → Prop := fun vs t => PM f vs t (kRL Q)
def kCallN (f : wM) (ls : wL) (Q : kS) : List Value → wS → Prop := fun vs t => PM f vs t (kRN ls Q)
def kAI2 (v : Int32) (Q : List Value → wS → Prop) : List Value → wS → Prop := fun vs t => Q (.int v :: vs) t
def kAI (r : wAr) (ls : wL) (Q : List Value → wS → Prop) : kI := fun v t => PA r ls t (kAI2 v Q)
def kAR2 (c : Nat) (Q : List Value → wS → Prop) : List Value → wS → Prop := fun vs t => Q (.ref c :: vs) t
def kAR (r : wAr) (ls : wL) (Q : List Value → wS → Prop) : Nat → wS → Prop := fun c t => PA r ls t (kAR2 c Q)
def kAO (sh : Nat → Nat × Nat) (ci : Nat) (r : wAr) (ls : wL) (Q : List Value → wS → Prop) : Nat → wS → Prop := fun c t => sh c = (0, ci) ∧ PA r ls t (kAR2 c Q)
def kSLen (Q : kI) : Nat → wS → Prop := fun c t => (1000 ≤ c ∧ c < 1023) ∧ Q (J ((wLen.getD (c - 1000) 0 : Nat) : Int)) t
def kSAt2 (c : Nat) (Q : kI) : kI := fun j t => (1000 ≤ c ∧ c < 1023 ∧ wIn j (wLen.getD (c - 1000) 0) = true) ∧ Q ((wByt.getD (c - 1000) []).getD j.toNatClampNeg 0) t
def kSAt (i : wEI) (ls : wL) (Q : kI) : Nat → wS → Prop := fun c t => PE i ls t (kSAt2 c Q)
def kSIdx2 (c : Nat) (Q : kI) : kI := fun j t => (1000 ≤ c ∧ c < 1023) ∧ Q (wIdx j (wByt.getD (c - 1000) []) 0) t
def kSIdx (i : wEI) (ls : wL) (Q : kI) : Nat → wS → Prop := fun c t => PE i ls t (kSIdx2 c Q)
def kI2L (Q : Int64 → wS → Prop) : kI := fun v t => Q v.toInt64 t
def kLB2 (op : Int64 → Int64 → Int64) (x : Int64) (Q : Int64 → wS → Prop) : Int64 → wS → Prop := fun y t => Q (op x y) t
def kLB (op : Int64 → Int64 → Int64) (b : wEL) (ls : wL) (Q : Int64 → wS → Prop) : Int64 → wS → Prop := fun x t => PL b ls t (kLB2 op x Q)
def kCI2 (c : ClassFile.Cond) (x : Int32) (Q : Bool → wS → Prop) : kI := fun y t => Q (wcmp c x y) t
def kCI (c : ClassFile.Cond) (b : wEI) (ls : wL) (Q : Bool → wS → Prop) : kI := fun x t => PE b ls t (kCI2 c x Q)
def kCZ (c : ClassFile.Cond) (Q : Bool → wS → Prop) : kI := fun x t => Q (wcmp c x (J 0)) t
def kCL2 (c : ClassFile.Cond) (x : Int64) (Q : Bool → wS → Prop) : Int64 → wS → Prop := fun y t => Q (wcmp c (lg_cmp x y) (J 0)) t
def kCL (c : ClassFile.Cond) (b : wEL) (ls : wL) (Q : Bool → wS → Prop) : Int64 → wS → Prop := fun x t => PL b ls t (kCL2 c x Q)
def kAnd (b : wC) (ls : wL) (Q : Bool → wS → Prop) : Bool → wS → Prop := fun v t => if v = true then PC b ls t Q else Q false t
def kOr (b : wC) (ls : wL) (Q : Bool → wS → Prop) : Bool → wS → Prop := fun v t => if v = true then Q true t else PC b ls t Q
def kNot (Q : Bool → wS → Prop) : Bool → wS → Prop := fun v t => Q (!v) t
def kCIf (a b : wC) (ls : wL) (Q : Bool → wS → Prop) : Bool → wS → Prop := fun v t => if v = true then PC a ls t Q else PC b ls t Q
def kSeq (b : wSt) (Q : kS) : kS := fun k a ls t => if k = 0 then PS b ls t Q else Q k a ls t
def kLoc (k : Nat) (ls : wL) (Q : kS) : kI := fun v t => Q 0 none (ls.set k (.int v)) t
def kLocR (k : Nat) (ls : wL) (Q : kS) : Nat → wS → Prop := fun v t => Q 0 none (ls.set k (.ref v)) t
def kLocL (k : Nat) (ls : wL) (Q : kS) : Int64 → wS → Prop := fun v t => Q 0 none ((ls.set k (.long v)).set (k + 1) wjk) t
def kPut2 (sh : Nat → Nat × Nat) (ci k c : Nat) (ls : wL) (Q : kS) : kI := fun v t => sh c = (0, ci) ∧ Q 0 none ls (wUI t c k v)
def kPut (sh : Nat → Nat × Nat) (ci k : Nat) (e : wEI) (ls : wL) (Q : kS) : Nat → wS → Prop := fun c t => PE e ls t (kPut2 sh ci k c ls Q)
def kPutZ2 (sh : Nat → Nat × Nat) (ci k c : Nat) (ls : wL) (Q : kS) : kI := fun v t => (sh c = (0, ci) ∧ (v = 0 ∨ v = 1)) ∧ Q 0 none ls (wUI t c k v)
def kPutZ (sh : Nat → Nat × Nat) (ci k : Nat) (e : wEI) (ls : wL) (Q : kS) : Nat → wS → Prop := fun c t => PE e ls t (kPutZ2 sh ci k c ls Q)
def kPutO2 (c k : Nat) (op : Int32 → Int32 → Int32) (x : Int32) (ls : wL) (Q : kS) : kI := fun v t => Q 0 none ls (wUI t c k (op x v))
def kPutO (sh : Nat → Nat × Nat) (ci k : Nat) (op : Int32 → Int32 → Int32) (e : wEI) (ls : wL) (Q : kS) : Nat → wS → Prop := fun c t => sh c = (0, ci) ∧ PE e ls t (kPutO2 c k op (t.1 c k) ls Q)
def kAst3 (sh : Nat → Nat × Nat) (c : Nat) (j : Int32) (ls : wL) (Q : kS) : kI := fun v t => ((sh c).1 = 1 ∧ wIn j (sh c).2 = true) ∧ Q 0 none ls (wUI t c j.toNatClampNeg v)
def kAst2 (sh : Nat → Nat × Nat) (c : Nat) (e : wEI) (ls : wL) (Q : kS) : kI := fun j t => PE e ls t (kAst3 sh c j ls Q)
def kAst (sh : Nat → Nat × Nat) (i e : wEI) (ls : wL) (Q : kS) : Nat → wS → Prop := fun c t => PE i ls t (kAst2 sh c e ls Q)
def kAstO3 (c : Nat) (j : Int32) (op : Int32 → Int32 → Int32) (x : Int32) (ls : wL) (Q : kS) : kI := fun v t => Q 0 none ls (wUI t c j.toNatClampNeg (op x v))
def kAstO2 (sh : Nat → Nat × Nat) (c : Nat) (op : Int32 → Int32 → Int32) (e : wEI) (ls : wL) (Q : kS) : kI := fun j t => ((sh c).1 = 1 ∧ wIn j (sh c).2 = true) ∧ PE e ls t (kAstO3 c j op (t.1 c j.toNatClampNeg) ls Q)
def kAstO (sh : Nat → Nat × Nat) (i : wEI) (op : Int32 → Int32 → Int32) (e : wEI) (ls : wL) (Q : kS) : Nat → wS → Prop := fun c t => PE i ls t (kAstO2 sh c op e ls Q)
def kAstD3 (c : Nat) (j : Int32) (op : Int32 → Int32 → Int32) (x : Int32) (ls : wL) (Q : kS) : kI := fun v t => ¬ v = 0 ∧ Q 0 none ls (wUI t c j.toNatClampNeg (op x v))
def kAstD2 (sh : Nat → Nat × Nat) (c : Nat) (op : Int32 → Int32 → Int32) (e : wEI) (ls : wL) (Q : kS) : kI := fun j t => ((sh c).1 = 1 ∧ wIn j (sh c).2 = true) ∧ PE e ls t (kAstD3 c j op (t.1 c j.toNatClampNeg) ls Q)
def kAstD (sh : Nat → Nat × Nat) (i : wEI) (op : Int32 → Int32 → Int32) (e : wEI) (ls : wL) (Q : kS) : Nat → wS → Prop := fun c t => PE i ls t (kAstD2 sh c op e ls Q)
def kAstR3 (sh : Nat → Nat × Nat) (ci c : Nat) (j : Int32) (ls : wL) (Q : kS) : Nat → wS → Prop := fun v t => ((sh c).1 = 3 ∧ wIn j (sh c).2 = true ∧ sh v = (0, ci) ∧ ¬ v = 5000) ∧ Q 0 none ls (wUR t c j.toNatClampNeg v)
def kAstR2 (sh : Nat → Nat × Nat) (ci c : Nat) (e : wER) (ls : wL) (Q : kS) : kI := fun j t => PR e ls t (kAstR3 sh ci c j ls Q)
def kAstR (sh : Nat → Nat × Nat) (ci : Nat) (i : wEI) (e : wER) (ls : wL) (Q : kS) : Nat → wS → Prop := fun c t => PE i ls t (kAstR2 sh ci c e ls Q)
def kIf (a b : wSt) (ls : wL) (Q : kS) : Bool → wS → Prop := fun v t => if v = true then PS a ls t Q else PS b ls t Q
def kRet (ls : wL) (Q : kS) : kI := fun v t => Q 3 (some (.int v)) ls t
def kRetZ (ls : wL) (Q : kS) : kI := fun v t => (v = 0 ∨ v = 1) ∧ Q 3 (some (.int v)) ls t
def kRetL (ls : wL) (Q : kS) : Int64 → wS → Prop := fun v t => Q 3 (some (.long v)) ls t
def kDrop (ls : wL) (Q : kS) : kI := fun _ t => Q 0 none ls t
def kCopyOk (sh : Nat → Nat × Nat) (p r : Nat) (q z y : Int32) : Prop := (sh p).1 = 1 ∧ (sh r).1 = 1 ∧ ¬ q < 0 ∧ ¬ z < 0 ∧ ¬ y < 0 ∧ q.toNatClampNeg + y.toNatClampNeg ≤ (sh p).2 ∧ z.toNatClampNeg + y.toNatClampNeg ≤ (sh r).2
def kCopy5 (sh : Nat → Nat × Nat) (p r : Nat) (q z : Int32) (ls : wL) (Q : kS) : kI := fun y t => kCopyOk sh p r q z y ∧ Q 0 none ls (wUC t r (va_cpy (t.1 p) (t.1 r) q.toNatClampNeg z.toNatClampNeg y.toNatClampNeg))
def kCopy4 (sh : Nat → Nat × Nat) (p r : Nat) (q : Int32) (n : wEI) (ls : wL) (Q : kS) : kI := fun z t => PE n ls t (kCopy5 sh p r q z ls Q)
def kCopy3 (sh : Nat → Nat × Nat) (p : Nat) (q : Int32) (j n : wEI) (ls : wL) (Q : kS) : Nat → wS → Prop := fun r t => PE j ls t (kCopy4 sh p r q n ls Q)
def kCopy2 (sh : Nat → Nat × Nat) (p : Nat) (b : wER) (j n : wEI) (ls : wL) (Q : kS) : kI := fun q t => PR b ls t (kCopy3 sh p q j n ls Q)
def kCopy (sh : Nat → Nat × Nat) (i : wEI) (b : wER) (j n : wEI) (ls : wL) (Q : kS) : Nat → wS → Prop := fun p t => PE i ls t (kCopy2 sh p b j n ls Q)
def kSw2 (Q : kS) : kS := fun k a ls t => if k = 1 then Q 0 none ls t else Q k a ls t
def kSw (cs : List (Int32 × wSt)) (d : wSt) (ls : wL) (Q : kS) : kI := fun v t => PS (wSwF v cs d) ls t (kSw2 Q)
def kDen (Q : Option Value → wS → Prop) : kS := fun k a _ t => k = 3 ∧ Q a t
/-! rules -/
theorem ite_not_none {c : Prop} (hc : Decidable c) (a : Prop) : (@ite _ c hc False a) = (¬ c ∧ a) := by by_cases h : c <;> simp [h]
theorem EX_sw (o : wO) (Q : kS) : EX (if o.1 = 1 then some ((0, none, o.2.2.1, o.2.2.2) : wO) else some o) (fun o => Q o.1 o.2.1 o.2.2.1 o.2.2.2) = kSw2 Q o.1 o.2.1 o.2.2.1 o.2.2.2 := by
  unfold kSw2
  by_cases h : o.1 = 1 <;> simp [h, EX_some]
theorem ex_callI (f : wM) (a : wAr) (ls : wL) (t : wS) (Q : kI) : (PE (eCall f a) ls t Q) = (PA a ls t (kCall f Q)) := by
  unfold PE PA eCall
  rw [EX_bind]
  congr 1
  funext p
  show _ = PM f p.1 p.2 (kRI Q)
  unfold PM
  rw [EX_bind]
  congr 1
  funext q
  obtain ⟨r, u⟩ := q
  cases r with
  | none => exact EX_none _
  | some v => cases v <;> first | exact EX_some _ _ | exact EX_none _
theorem ex_callL (f : wM) (a : wAr) (ls : wL) (t : wS) (Q : Int64 → wS → Prop) : (PL (eCallL f a) ls t Q) = (PA a ls t (kCallL f Q)) := by
  unfold PL PA eCallL
  rw [EX_bind]
  congr 1
  funext p
  show _ = PM f p.1 p.2 (kRL Q)
  unfold PM
  rw [EX_bind]
  congr 1
  funext q
  obtain ⟨r, u⟩ := q
  cases r with
  | none => exact EX_none _
  | some v => cases v <;> first | exact EX_some _ _ | exact EX_none _
theorem ex_callN (f : wM) (a : wAr) (ls : wL) (t : wS) (Q : kS) : (PS (sCall f a) ls t Q) = (PA a ls t (kCallN f ls Q)) := by
  unfold PS PA sCall
  rw [EX_bind]
  congr 1
  funext p
  show _ = PM f p.1 p.2 (kRN ls Q)
  unfold PM
  rw [EX_bind]
  congr 1
  funext q
  obtain ⟨r, u⟩ := q
  cases r with
  | none => exact EX_some _ _
  | some v => exact EX_none _
theorem wr_1 (v : Int32) (ls : wL) (t : wS) (Q : kI) : (PE (eI v) ls t Q) = (Q (J v.toInt) t) := by
  rw [J_eta]; exact EX_some (v, t) (fun p => Q p.1 p.2)
theorem wr_2 (v : Int32) (l : wL) (t : wS) (Q : kI) : (PE (eLoc 0) (.int v :: l) t Q) = (Q v t) := by
  exact EX_some (v, t) (fun p => Q p.1 p.2)
theorem wr_3 (v : Nat) (l : wL) (t : wS) (Q : Nat → wS → Prop) : (PR (eLocR 0) (.ref v :: l) t Q) = (Q v t) := by
  exact EX_some (v, t) (fun p => Q p.1 p.2)
theorem wr_4 (v : Int64) (l : wL) (t : wS) (Q : Int64 → wS → Prop) : (PL (eLocL 0) (.long v :: wjk :: l) t Q) = (Q v t) := by
  exact EX_some (v, t) (fun p => Q p.1 p.2)
theorem wr_5 (v : Int32) (n : Int) (l : wL) (t : wS) (Q : kS) : (PS (sInc 0 n) (.int v :: l) t Q) = (Q 0 none (.int (oAdd v (J n)) :: l) t) := by
  exact EX_some ((0, none, .int (v + Int32.ofInt n) :: l, t) : wO) (fun o => Q o.1 o.2.1 o.2.2.1 o.2.2.2)
theorem wr_6 (x0 : Value) (v : Int32) (l : wL) (t : wS) (Q : kI) : (PE (eLoc 1) (x0 :: .int v :: l) t Q) = (Q v t) := by
  exact EX_some (v, t) (fun p => Q p.1 p.2)
theorem wr_7 (x0 : Value) (v : Nat) (l : wL) (t : wS) (Q : Nat → wS → Prop) : (PR (eLocR 1) (x0 :: .ref v :: l) t Q) = (Q v t) := by
  exact EX_some (v, t) (fun p => Q p.1 p.2)
theorem wr_8 (x0 : Value) (v : Int64) (l : wL) (t : wS) (Q : Int64 → wS → Prop) : (PL (eLocL 1) (x0 :: .long v :: wjk :: l) t Q) = (Q v t) := by
  exact EX_some (v, t) (fun p => Q p.1 p.2)
theorem wr_9 (x0 : Value) (v : Int32) (n : Int) (l : wL) (t : wS) (Q : kS) : (PS (sInc 1 n) (x0 :: .int v :: l) t Q) = (Q 0 none (x0 :: .int (oAdd v (J n)) :: l) t) := by
  exact EX_some ((0, none, x0 :: .int (v + Int32.ofInt n) :: l, t) : wO) (fun o => Q o.1 o.2.1 o.2.2.1 o.2.2.2)
theorem wr_10 (x0 x1 : Value) (v : Int32) (l : wL) (t : wS) (Q : kI) : (PE (eLoc 2) (x0 :: x1 :: .int v :: l) t Q) = (Q v t) := by
  exact EX_some (v, t) (fun p => Q p.1 p.2)
theorem wr_11 (x0 x1 : Value) (v : Nat) (l : wL) (t : wS) (Q : Nat → wS → Prop) : (PR (eLocR 2) (x0 :: x1 :: .ref v :: l) t Q) = (Q v t) := by
  exact EX_some (v, t) (fun p => Q p.1 p.2)
theorem wr_12 (x0 x1 : Value) (v : Int64) (l : wL) (t : wS) (Q : Int64 → wS → Prop) : (PL (eLocL 2) (x0 :: x1 :: .long v :: wjk :: l) t Q) = (Q v t) := by
  exact EX_some (v, t) (fun p => Q p.1 p.2)
theorem wr_13 (x0 x1 : Value) (v : Int32) (n : Int) (l : wL) (t : wS) (Q : kS) : (PS (sInc 2 n) (x0 :: x1 :: .int v :: l) t Q) = (Q 0 none (x0 :: x1 :: .int (oAdd v (J n)) :: l) t) := by
  exact EX_some ((0, none, x0 :: x1 :: .int (v + Int32.ofInt n) :: l, t) : wO) (fun o => Q o.1 o.2.1 o.2.2.1 o.2.2.2)
theorem wr_14 (x0 x1 x2 : Value) (v : Int32) (l : wL) (t : wS) (Q : kI) : (PE (eLoc 3) (x0 :: x1 :: x2 :: .int v :: l) t Q) = (Q v t) := by
  exact EX_some (v, t) (fun p => Q p.1 p.2)
theorem wr_15 (x0 x1 x2 : Value) (v : Nat) (l : wL) (t : wS) (Q : Nat → wS → Prop) : (PR (eLocR 3) (x0 :: x1 :: x2 :: .ref v :: l) t Q) = (Q v t) := by
  exact EX_some (v, t) (fun p => Q p.1 p.2)
theorem wr_16 (x0 x1 x2 : Value) (v : Int64) (l : wL) (t : wS) (Q : Int64 → wS → Prop) : (PL (eLocL 3) (x0 :: x1 :: x2 :: .long v :: wjk :: l) t Q) = (Q v t) := by
  exact EX_some (v, t) (fun p => Q p.1 p.2)
theorem wr_17 (x0 x1 x2 : Value) (v : Int32) (n : Int) (l : wL) (t : wS) (Q : kS) : (PS (sInc 3 n) (x0 :: x1 :: x2 :: .int v :: l) t Q) = (Q 0 none (x0 :: x1 :: x2 :: .int (oAdd v (J n)) :: l) t) := by
  exact EX_some ((0, none, x0 :: x1 :: x2 :: .int (v + Int32.ofInt n) :: l, t) : wO) (fun o => Q o.1 o.2.1 o.2.2.1 o.2.2.2)
theorem wr_18 (x0 x1 x2 x3 : Value) (v : Int32) (l : wL) (t : wS) (Q : kI) : (PE (eLoc 4) (x0 :: x1 :: x2 :: x3 :: .int v :: l) t Q) = (Q v t) := by
  exact EX_some (v, t) (fun p => Q p.1 p.2)
theorem wr_19 (x0 x1 x2 x3 : Value) (v : Nat) (l : wL) (t : wS) (Q : Nat → wS → Prop) : (PR (eLocR 4) (x0 :: x1 :: x2 :: x3 :: .ref v :: l) t Q) = (Q v t) := by
  exact EX_some (v, t) (fun p => Q p.1 p.2)
theorem wr_20 (x0 x1 x2 x3 : Value) (v : Int64) (l : wL) (t : wS) (Q : Int64 → wS → Prop) : (PL (eLocL 4) (x0 :: x1 :: x2 :: x3 :: .long v :: wjk :: l) t Q) = (Q v t) := by
  exact EX_some (v, t) (fun p => Q p.1 p.2)
theorem wr_21 (x0 x1 x2 x3 : Value) (v : Int32) (n : Int) (l : wL) (t : wS) (Q : kS) : (PS (sInc 4 n) (x0 :: x1 :: x2 :: x3 :: .int v :: l) t Q) = (Q 0 none (x0 :: x1 :: x2 :: x3 :: .int (oAdd v (J n)) :: l) t) := by
  exact EX_some ((0, none, x0 :: x1 :: x2 :: x3 :: .int (v + Int32.ofInt n) :: l, t) : wO) (fun o => Q o.1 o.2.1 o.2.2.1 o.2.2.2)
theorem wr_22 (x0 x1 x2 x3 x4 : Value) (v : Int32) (l : wL) (t : wS) (Q : kI) : (PE (eLoc 5) (x0 :: x1 :: x2 :: x3 :: x4 :: .int v :: l) t Q) = (Q v t) := by
  exact EX_some (v, t) (fun p => Q p.1 p.2)
theorem wr_23 (x0 x1 x2 x3 x4 : Value) (v : Nat) (l : wL) (t : wS) (Q : Nat → wS → Prop) : (PR (eLocR 5) (x0 :: x1 :: x2 :: x3 :: x4 :: .ref v :: l) t Q) = (Q v t) := by
  exact EX_some (v, t) (fun p => Q p.1 p.2)
theorem wr_24 (x0 x1 x2 x3 x4 : Value) (v : Int64) (l : wL) (t : wS) (Q : Int64 → wS → Prop) : (PL (eLocL 5) (x0 :: x1 :: x2 :: x3 :: x4 :: .long v :: wjk :: l) t Q) = (Q v t) := by
  exact EX_some (v, t) (fun p => Q p.1 p.2)
theorem wr_25 (x0 x1 x2 x3 x4 : Value) (v : Int32) (n : Int) (l : wL) (t : wS) (Q : kS) : (PS (sInc 5 n) (x0 :: x1 :: x2 :: x3 :: x4 :: .int v :: l) t Q) = (Q 0 none (x0 :: x1 :: x2 :: x3 :: x4 :: .int (oAdd v (J n)) :: l) t) := by
  exact EX_some ((0, none, x0 :: x1 :: x2 :: x3 :: x4 :: .int (v + Int32.ofInt n) :: l, t) : wO) (fun o => Q o.1 o.2.1 o.2.2.1 o.2.2.2)
theorem wr_26 (x0 x1 x2 x3 x4 x5 : Value) (v : Int32) (l : wL) (t : wS) (Q : kI) : (PE (eLoc 6) (x0 :: x1 :: x2 :: x3 :: x4 :: x5 :: .int v :: l) t Q) = (Q v t) := by
  exact EX_some (v, t) (fun p => Q p.1 p.2)
theorem wr_27 (x0 x1 x2 x3 x4 x5 : Value) (v : Nat) (l : wL) (t : wS) (Q : Nat → wS → Prop) : (PR (eLocR 6) (x0 :: x1 :: x2 :: x3 :: x4 :: x5 :: .ref v :: l) t Q) = (Q v t) := by
  exact EX_some (v, t) (fun p => Q p.1 p.2)
theorem wr_28 (x0 x1 x2 x3 x4 x5 : Value) (v : Int64) (l : wL) (t : wS) (Q : Int64 → wS → Prop) : (PL (eLocL 6) (x0 :: x1 :: x2 :: x3 :: x4 :: x5 :: .long v :: wjk :: l) t Q) = (Q v t) := by
  exact EX_some (v, t) (fun p => Q p.1 p.2)
theorem wr_29 (x0 x1 x2 x3 x4 x5 : Value) (v : Int32) (n : Int) (l : wL) (t : wS) (Q : kS) : (PS (sInc 6 n) (x0 :: x1 :: x2 :: x3 :: x4 :: x5 :: .int v :: l) t Q) = (Q 0 none (x0 :: x1 :: x2 :: x3 :: x4 :: x5 :: .int (oAdd v (J n)) :: l) t) := by
  exact EX_some ((0, none, x0 :: x1 :: x2 :: x3 :: x4 :: x5 :: .int (v + Int32.ofInt n) :: l, t) : wO) (fun o => Q o.1 o.2.1 o.2.2.1 o.2.2.2)
theorem wr_30 (x0 x1 x2 x3 x4 x5 x6 : Value) (v : Int32) (l : wL) (t : wS) (Q : kI) : (PE (eLoc 7) (x0 :: x1 :: x2 :: x3 :: x4 :: x5 :: x6 :: .int v :: l) t Q) = (Q v t) := by
  exact EX_some (v, t) (fun p => Q p.1 p.2)
theorem wr_31 (x0 x1 x2 x3 x4 x5 x6 : Value) (v : Nat) (l : wL) (t : wS) (Q : Nat → wS → Prop) : (PR (eLocR 7) (x0 :: x1 :: x2 :: x3 :: x4 :: x5 :: x6 :: .ref v :: l) t Q) = (Q v t) := by
  exact EX_some (v, t) (fun p => Q p.1 p.2)
theorem wr_32 (x0 x1 x2 x3 x4 x5 x6 : Value) (v : Int64) (l : wL) (t : wS) (Q : Int64 → wS → Prop) : (PL (eLocL 7) (x0 :: x1 :: x2 :: x3 :: x4 :: x5 :: x6 :: .long v :: wjk :: l) t Q) = (Q v t) := by
  exact EX_some (v, t) (fun p => Q p.1 p.2)
theorem wr_33 (x0 x1 x2 x3 x4 x5 x6 : Value) (v : Int32) (n : Int) (l : wL) (t : wS) (Q : kS) : (PS (sInc 7 n) (x0 :: x1 :: x2 :: x3 :: x4 :: x5 :: x6 :: .int v :: l) t Q) = (Q 0 none (x0 :: x1 :: x2 :: x3 :: x4 :: x5 :: x6 :: .int (oAdd v (J n)) :: l) t) := by
  exact EX_some ((0, none, x0 :: x1 :: x2 :: x3 :: x4 :: x5 :: x6 :: .int (v + Int32.ofInt n) :: l, t) : wO) (fun o => Q o.1 o.2.1 o.2.2.1 o.2.2.2)
theorem wr_34 (x0 x1 x2 x3 x4 x5 x6 x7 : Value) (v : Int32) (l : wL) (t : wS) (Q : kI) : (PE (eLoc 8) (x0 :: x1 :: x2 :: x3 :: x4 :: x5 :: x6 :: x7 :: .int v :: l) t Q) = (Q v t) := by
  exact EX_some (v, t) (fun p => Q p.1 p.2)
theorem wr_35 (x0 x1 x2 x3 x4 x5 x6 x7 : Value) (v : Nat) (l : wL) (t : wS) (Q : Nat → wS → Prop) : (PR (eLocR 8) (x0 :: x1 :: x2 :: x3 :: x4 :: x5 :: x6 :: x7 :: .ref v :: l) t Q) = (Q v t) := by
  exact EX_some (v, t) (fun p => Q p.1 p.2)
theorem wr_36 (x0 x1 x2 x3 x4 x5 x6 x7 : Value) (v : Int32) (n : Int) (l : wL) (t : wS) (Q : kS) : (PS (sInc 8 n) (x0 :: x1 :: x2 :: x3 :: x4 :: x5 :: x6 :: x7 :: .int v :: l) t Q) = (Q 0 none (x0 :: x1 :: x2 :: x3 :: x4 :: x5 :: x6 :: x7 :: .int (oAdd v (J n)) :: l) t) := by
  exact EX_some ((0, none, x0 :: x1 :: x2 :: x3 :: x4 :: x5 :: x6 :: x7 :: .int (v + Int32.ofInt n) :: l, t) : wO) (fun o => Q o.1 o.2.1 o.2.2.1 o.2.2.2)
theorem wr_37 (x0 x1 x2 x3 x4 x5 x6 x7 x8 : Value) (v : Int32) (l : wL) (t : wS) (Q : kI) : (PE (eLoc 9) (x0 :: x1 :: x2 :: x3 :: x4 :: x5 :: x6 :: x7 :: x8 :: .int v :: l) t Q) = (Q v t) := by
  exact EX_some (v, t) (fun p => Q p.1 p.2)
theorem wr_38 (x0 x1 x2 x3 x4 x5 x6 x7 x8 : Value) (v : Nat) (l : wL) (t : wS) (Q : Nat → wS → Prop) : (PR (eLocR 9) (x0 :: x1 :: x2 :: x3 :: x4 :: x5 :: x6 :: x7 :: x8 :: .ref v :: l) t Q) = (Q v t) := by
  exact EX_some (v, t) (fun p => Q p.1 p.2)
theorem wr_39 (x0 x1 x2 x3 x4 x5 x6 x7 x8 : Value) (v : Int32) (n : Int) (l : wL) (t : wS) (Q : kS) : (PS (sInc 9 n) (x0 :: x1 :: x2 :: x3 :: x4 :: x5 :: x6 :: x7 :: x8 :: .int v :: l) t Q) = (Q 0 none (x0 :: x1 :: x2 :: x3 :: x4 :: x5 :: x6 :: x7 :: x8 :: .int (oAdd v (J n)) :: l) t) := by
  exact EX_some ((0, none, x0 :: x1 :: x2 :: x3 :: x4 :: x5 :: x6 :: x7 :: x8 :: .int (v + Int32.ofInt n) :: l, t) : wO) (fun o => Q o.1 o.2.1 o.2.2.1 o.2.2.2)
theorem wr_40 (op : Int32 → Int32 → Int32) (a b : wEI) (ls : wL) (t : wS) (Q : kI) : (PE (eB op a b) ls t Q) = (PE a ls t (kB op b ls Q)) := by
  unfold PE eB; simp only [EX_bind, EX_some, EX_none, EX_ite, ite_none]; try rfl
theorem wr_41 (op : Int32 → Int32 → Int32) (a b : wEI) (ls : wL) (t : wS) (Q : kI) : (PE (eD op a b) ls t Q) = (PE a ls t (kD op b ls Q)) := by
  unfold PE eD kD kD2; simp only [EX_bind, EX_some, EX_none, EX_ite, ite_none, ite_not_none]; try rfl
theorem wr_42 (op : Int32 → Int32) (a : wEI) (ls : wL) (t : wS) (Q : kI) : (PE (eU op a) ls t Q) = (PE a ls t (kU op Q)) := by
  unfold PE eU; simp only [EX_bind, EX_some, EX_none, EX_ite, ite_none]; try rfl
theorem wr_43 (sh : Nat → Nat × Nat) (ci k : Nat) (a : wER) (ls : wL) (t : wS) (Q : kI) : (PE (eFld sh ci k a) ls t Q) = (PR a ls t (kFld sh ci k Q)) := by
  unfold PE eFld PR; simp only [EX_bind, EX_some, EX_none, EX_ite, ite_none]; try rfl
theorem wr_44 (sh : Nat → Nat × Nat) (ci k : Nat) (a : wER) (ls : wL) (t : wS) (Q : Nat → wS → Prop) : (PR (eFldR sh ci k a) ls t Q) = (PR a ls t (kFldR sh ci k Q)) := by
  unfold PR eFldR kFldR; simp only [EX_bind, EX_some, EX_none, EX_ite, ite_none, and_assoc]; try rfl
theorem wr_45 (sh : Nat → Nat × Nat) (a : wER) (i : wEI) (ls : wL) (t : wS) (Q : kI) : (PE (eArr sh a i) ls t Q) = (PR a ls t (kArr sh i ls Q)) := by
  unfold PE eArr PR kArr kArr2; simp only [EX_bind, EX_some, EX_none, EX_ite, ite_none, and_assoc]; try rfl
theorem wr_46 (sh : Nat → Nat × Nat) (a : wER) (i : wEI) (ls : wL) (t : wS) (Q : Nat → wS → Prop) : (PR (eArrR sh a i) ls t Q) = (PR a ls t (kArrR sh i ls Q)) := by
  unfold PR eArrR kArrR kArrR2 PE; simp only [EX_bind, EX_some, EX_none, EX_ite, ite_none, and_assoc]; try rfl
theorem wr_47 (sh : Nat → Nat × Nat) (a : wER) (ls : wL) (t : wS) (Q : kI) : (PE (eLen sh a) ls t Q) = (PR a ls t (kLen sh Q)) := by
  unfold PE eLen PR; simp only [EX_bind, EX_some, EX_none, EX_ite, ite_none, J_ofNat]; try rfl
theorem wr_48 (c : wC) (a b : wEI) (ls : wL) (t : wS) (Q : kI) : (PE (eIf c a b) ls t Q) = (PC c ls t (kEIf a b ls Q)) := by
  unfold PE eIf PC; simp only [EX_bind, EX_some, EX_none, EX_ite, ite_none]; try rfl
theorem wr_49 (c : wC) (a b : wEL) (ls : wL) (t : wS) (Q : Int64 → wS → Prop) : (PL (eIfL c a b) ls t Q) = (PC c ls t (kEIfL a b ls Q)) := by
  unfold PL eIfL PC; simp only [EX_bind, EX_some, EX_none, EX_ite, ite_none]; try rfl
theorem wr_50 (c : wC) (ls : wL) (t : wS) (Q : kI) : (PE (eBo c) ls t Q) = (PC c ls t (kBo Q)) := by
  unfold PE PC eBo; rw [EX_bind]; congr 1; funext p; rw [EX_some]; obtain ⟨v, u⟩ := p; cases v <;> rfl
theorem wr_51 (f : wM) (a : wAr) (ls : wL) (t : wS) (Q : kI) : (PE (eCall f a) ls t Q) = (PA a ls t (kCall f Q)) := by
  exact ex_callI f a ls t Q
theorem wr_52 (f : wM) (a : wAr) (ls : wL) (t : wS) (Q : Int64 → wS → Prop) : (PL (eCallL f a) ls t Q) = (PA a ls t (kCallL f Q)) := by
  exact ex_callL f a ls t Q
theorem wr_53 (f : wM) (a : wAr) (ls : wL) (t : wS) (Q : kS) : (PS (sCall f a) ls t Q) = (PA a ls t (kCallN f ls Q)) := by
  exact ex_callN f a ls t Q
theorem wr_54  (ls : wL) (t : wS) (Q : List Value → wS → Prop) : (PA aN ls t Q) = (Q [] t) := by
  unfold PA aN; simp only [EX_bind, EX_some, EX_none, EX_ite, ite_none]; try rfl
theorem wr_55 (e : wEI) (r : wAr) (ls : wL) (t : wS) (Q : List Value → wS → Prop) : (PA (aI e r) ls t Q) = (PE e ls t (kAI r ls Q)) := by
  unfold PA aI PE kAI; simp only [EX_bind, EX_some, EX_none, EX_ite, ite_none]; try rfl
theorem wr_56 (e : wER) (r : wAr) (ls : wL) (t : wS) (Q : List Value → wS → Prop) : (PA (aR e r) ls t Q) = (PR e ls t (kAR r ls Q)) := by
  unfold PA aR PR kAR; simp only [EX_bind, EX_some, EX_none, EX_ite, ite_none]; try rfl
theorem wr_57 (sh : Nat → Nat × Nat) (ci : Nat) (e : wER) (r : wAr) (ls : wL) (t : wS) (Q : List Value → wS → Prop) : (PA (aO sh ci e r) ls t Q) = (PR e ls t (kAO sh ci r ls Q)) := by
  unfold PA aO PR kAO; simp only [EX_bind, EX_some, EX_none, EX_ite, ite_none]; try rfl
theorem wr_58 (k : Nat) (ls : wL) (t : wS) (Q : Nat → wS → Prop) : (PR (eStr k) ls t Q) = (Q (1000 + k) t) := by
  unfold PR eStr; simp only [EX_bind, EX_some, EX_none, EX_ite, ite_none]; try rfl
theorem wr_59 (a : wER) (ls : wL) (t : wS) (Q : kI) : (PE (eSLen a) ls t Q) = (PR a ls t (kSLen Q)) := by
  unfold PE eSLen PR; simp only [EX_bind, EX_some, EX_none, EX_ite, ite_none, J_ofNat]; try rfl
theorem wr_60 (a : wER) (i : wEI) (ls : wL) (t : wS) (Q : kI) : (PE (eSAt a i) ls t Q) = (PR a ls t (kSAt i ls Q)) := by
  unfold PE eSAt PR kSAt; simp only [EX_bind, EX_some, EX_none, EX_ite, ite_none]; try rfl
theorem wr_61 (a : wER) (i : wEI) (ls : wL) (t : wS) (Q : kI) : (PE (eSIdx a i) ls t Q) = (PR a ls t (kSIdx i ls Q)) := by
  unfold PE eSIdx PR kSIdx; simp only [EX_bind, EX_some, EX_none, EX_ite, ite_none]; try rfl
theorem wr_62 (v : Int64) (ls : wL) (t : wS) (Q : Int64 → wS → Prop) : (PL (eLI v) ls t Q) = (Q v t) := by
  unfold PL eLI; simp only [EX_bind, EX_some, EX_none, EX_ite, ite_none]; try rfl
theorem wr_63 (a : wEI) (ls : wL) (t : wS) (Q : Int64 → wS → Prop) : (PL (eI2L a) ls t Q) = (PE a ls t (kI2L Q)) := by
  unfold PL eI2L PE; simp only [EX_bind, EX_some, EX_none, EX_ite, ite_none]; try rfl
theorem wr_64 (op : Int64 → Int64 → Int64) (a b : wEL) (ls : wL) (t : wS) (Q : Int64 → wS → Prop) : (PL (eLB op a b) ls t Q) = (PL a ls t (kLB op b ls Q)) := by
  unfold PL eLB; simp only [EX_bind, EX_some, EX_none, EX_ite, ite_none]; try rfl
theorem wr_65 (c : ClassFile.Cond) (a b : wEI) (ls : wL) (t : wS) (Q : Bool → wS → Prop) : (PC (cI c a b) ls t Q) = (PE a ls t (kCI c b ls Q)) := by
  unfold PC cI PE kCI; simp only [EX_bind, EX_some, EX_none, EX_ite, ite_none]; try rfl
theorem wr_66 (c : ClassFile.Cond) (a : wEI) (ls : wL) (t : wS) (Q : Bool → wS → Prop) : (PC (cZ c a) ls t Q) = (PE a ls t (kCZ c Q)) := by
  unfold PC cZ PE; simp only [EX_bind, EX_some, EX_none, EX_ite, ite_none]; try rfl
theorem wr_67 (c : ClassFile.Cond) (a b : wEL) (ls : wL) (t : wS) (Q : Bool → wS → Prop) : (PC (cL c a b) ls t Q) = (PL a ls t (kCL c b ls Q)) := by
  unfold PC cL PL kCL; simp only [EX_bind, EX_some, EX_none, EX_ite, ite_none]; try rfl
theorem wr_68 (a b : wC) (ls : wL) (t : wS) (Q : Bool → wS → Prop) : (PC (cAnd a b) ls t Q) = (PC a ls t (kAnd b ls Q)) := by
  unfold PC cAnd; simp only [EX_bind, EX_some, EX_none, EX_ite, ite_none]; try rfl
theorem wr_69 (a b : wC) (ls : wL) (t : wS) (Q : Bool → wS → Prop) : (PC (cOr a b) ls t Q) = (PC a ls t (kOr b ls Q)) := by
  unfold PC cOr; simp only [EX_bind, EX_some, EX_none, EX_ite, ite_none]; try rfl
theorem wr_70 (a : wC) (ls : wL) (t : wS) (Q : Bool → wS → Prop) : (PC (cNot a) ls t Q) = (PC a ls t (kNot Q)) := by
  unfold PC cNot; simp only [EX_bind, EX_some, EX_none, EX_ite, ite_none]; try rfl
theorem wr_71 (c a b : wC) (ls : wL) (t : wS) (Q : Bool → wS → Prop) : (PC (cIf c a b) ls t Q) = (PC c ls t (kCIf a b ls Q)) := by
  unfold PC cIf; simp only [EX_bind, EX_some, EX_none, EX_ite, ite_none]; try rfl
theorem wr_72  (ls : wL) (t : wS) (Q : kS) : (PS sSkip ls t Q) = (Q 0 none ls t) := by
  unfold PS sSkip; simp only [EX_bind, EX_some, EX_none, EX_ite, ite_none]; try rfl
theorem wr_73 (a b : wSt) (ls : wL) (t : wS) (Q : kS) : (PS (sSeq a b) ls t Q) = (PS a ls t (kSeq b Q)) := by
  unfold PS sSeq; simp only [EX_bind, EX_some, EX_none, EX_ite, ite_none]; try rfl
theorem wr_74 (x0 : Value) (l : wL) (Q : kS) (v : Int32) (t : wS) : (kLoc 0 (x0 :: l) Q v t) = (Q 0 none (.int v :: l) t) := by
  rfl
theorem wr_75 (x0 : Value) (l : wL) (Q : kS) (v : Nat) (t : wS) : (kLocR 0 (x0 :: l) Q v t) = (Q 0 none (.ref v :: l) t) := by
  rfl
theorem wr_76 (x0 y : Value) (l : wL) (Q : kS) (v : Int64) (t : wS) : (kLocL 0 (x0 :: y :: l) Q v t) = (Q 0 none (.long v :: wjk :: l) t) := by
  rfl
theorem wr_77 (x0 x1 : Value) (l : wL) (Q : kS) (v : Int32) (t : wS) : (kLoc 1 (x0 :: x1 :: l) Q v t) = (Q 0 none (x0 :: .int v :: l) t) := by
  rfl
theorem wr_78 (x0 x1 : Value) (l : wL) (Q : kS) (v : Nat) (t : wS) : (kLocR 1 (x0 :: x1 :: l) Q v t) = (Q 0 none (x0 :: .ref v :: l) t) := by
  rfl
theorem wr_79 (x0 x1 y : Value) (l : wL) (Q : kS) (v : Int64) (t : wS) : (kLocL 1 (x0 :: x1 :: y :: l) Q v t) = (Q 0 none (x0 :: .long v :: wjk :: l) t) := by
  rfl
theorem wr_80 (x0 x1 x2 : Value) (l : wL) (Q : kS) (v : Int32) (t : wS) : (kLoc 2 (x0 :: x1 :: x2 :: l) Q v t) = (Q 0 none (x0 :: x1 :: .int v :: l) t) := by
  rfl
theorem wr_81 (x0 x1 x2 : Value) (l : wL) (Q : kS) (v : Nat) (t : wS) : (kLocR 2 (x0 :: x1 :: x2 :: l) Q v t) = (Q 0 none (x0 :: x1 :: .ref v :: l) t) := by
  rfl
theorem wr_82 (x0 x1 x2 y : Value) (l : wL) (Q : kS) (v : Int64) (t : wS) : (kLocL 2 (x0 :: x1 :: x2 :: y :: l) Q v t) = (Q 0 none (x0 :: x1 :: .long v :: wjk :: l) t) := by
  rfl
theorem wr_83 (x0 x1 x2 x3 : Value) (l : wL) (Q : kS) (v : Int32) (t : wS) : (kLoc 3 (x0 :: x1 :: x2 :: x3 :: l) Q v t) = (Q 0 none (x0 :: x1 :: x2 :: .int v :: l) t) := by
  rfl
theorem wr_84 (x0 x1 x2 x3 : Value) (l : wL) (Q : kS) (v : Nat) (t : wS) : (kLocR 3 (x0 :: x1 :: x2 :: x3 :: l) Q v t) = (Q 0 none (x0 :: x1 :: x2 :: .ref v :: l) t) := by
  rfl
theorem wr_85 (x0 x1 x2 x3 y : Value) (l : wL) (Q : kS) (v : Int64) (t : wS) : (kLocL 3 (x0 :: x1 :: x2 :: x3 :: y :: l) Q v t) = (Q 0 none (x0 :: x1 :: x2 :: .long v :: wjk :: l) t) := by
  rfl
theorem wr_86 (x0 x1 x2 x3 x4 : Value) (l : wL) (Q : kS) (v : Int32) (t : wS) : (kLoc 4 (x0 :: x1 :: x2 :: x3 :: x4 :: l) Q v t) = (Q 0 none (x0 :: x1 :: x2 :: x3 :: .int v :: l) t) := by
  rfl
theorem wr_87 (x0 x1 x2 x3 x4 : Value) (l : wL) (Q : kS) (v : Nat) (t : wS) : (kLocR 4 (x0 :: x1 :: x2 :: x3 :: x4 :: l) Q v t) = (Q 0 none (x0 :: x1 :: x2 :: x3 :: .ref v :: l) t) := by
  rfl
theorem wr_88 (x0 x1 x2 x3 x4 y : Value) (l : wL) (Q : kS) (v : Int64) (t : wS) : (kLocL 4 (x0 :: x1 :: x2 :: x3 :: x4 :: y :: l) Q v t) = (Q 0 none (x0 :: x1 :: x2 :: x3 :: .long v :: wjk :: l) t) := by
  rfl
theorem wr_89 (x0 x1 x2 x3 x4 x5 : Value) (l : wL) (Q : kS) (v : Int32) (t : wS) : (kLoc 5 (x0 :: x1 :: x2 :: x3 :: x4 :: x5 :: l) Q v t) = (Q 0 none (x0 :: x1 :: x2 :: x3 :: x4 :: .int v :: l) t) := by
  rfl
theorem wr_90 (x0 x1 x2 x3 x4 x5 : Value) (l : wL) (Q : kS) (v : Nat) (t : wS) : (kLocR 5 (x0 :: x1 :: x2 :: x3 :: x4 :: x5 :: l) Q v t) = (Q 0 none (x0 :: x1 :: x2 :: x3 :: x4 :: .ref v :: l) t) := by
  rfl
theorem wr_91 (x0 x1 x2 x3 x4 x5 y : Value) (l : wL) (Q : kS) (v : Int64) (t : wS) : (kLocL 5 (x0 :: x1 :: x2 :: x3 :: x4 :: x5 :: y :: l) Q v t) = (Q 0 none (x0 :: x1 :: x2 :: x3 :: x4 :: .long v :: wjk :: l) t) := by
  rfl
theorem wr_92 (x0 x1 x2 x3 x4 x5 x6 : Value) (l : wL) (Q : kS) (v : Int32) (t : wS) : (kLoc 6 (x0 :: x1 :: x2 :: x3 :: x4 :: x5 :: x6 :: l) Q v t) = (Q 0 none (x0 :: x1 :: x2 :: x3 :: x4 :: x5 :: .int v :: l) t) := by
  rfl
theorem wr_93 (x0 x1 x2 x3 x4 x5 x6 : Value) (l : wL) (Q : kS) (v : Nat) (t : wS) : (kLocR 6 (x0 :: x1 :: x2 :: x3 :: x4 :: x5 :: x6 :: l) Q v t) = (Q 0 none (x0 :: x1 :: x2 :: x3 :: x4 :: x5 :: .ref v :: l) t) := by
  rfl
theorem wr_94 (x0 x1 x2 x3 x4 x5 x6 y : Value) (l : wL) (Q : kS) (v : Int64) (t : wS) : (kLocL 6 (x0 :: x1 :: x2 :: x3 :: x4 :: x5 :: x6 :: y :: l) Q v t) = (Q 0 none (x0 :: x1 :: x2 :: x3 :: x4 :: x5 :: .long v :: wjk :: l) t) := by
  rfl
theorem wr_95 (x0 x1 x2 x3 x4 x5 x6 x7 : Value) (l : wL) (Q : kS) (v : Int32) (t : wS) : (kLoc 7 (x0 :: x1 :: x2 :: x3 :: x4 :: x5 :: x6 :: x7 :: l) Q v t) = (Q 0 none (x0 :: x1 :: x2 :: x3 :: x4 :: x5 :: x6 :: .int v :: l) t) := by
  rfl
theorem wr_96 (x0 x1 x2 x3 x4 x5 x6 x7 : Value) (l : wL) (Q : kS) (v : Nat) (t : wS) : (kLocR 7 (x0 :: x1 :: x2 :: x3 :: x4 :: x5 :: x6 :: x7 :: l) Q v t) = (Q 0 none (x0 :: x1 :: x2 :: x3 :: x4 :: x5 :: x6 :: .ref v :: l) t) := by
  rfl
theorem wr_97 (x0 x1 x2 x3 x4 x5 x6 x7 y : Value) (l : wL) (Q : kS) (v : Int64) (t : wS) : (kLocL 7 (x0 :: x1 :: x2 :: x3 :: x4 :: x5 :: x6 :: x7 :: y :: l) Q v t) = (Q 0 none (x0 :: x1 :: x2 :: x3 :: x4 :: x5 :: x6 :: .long v :: wjk :: l) t) := by
  rfl
theorem wr_98 (x0 x1 x2 x3 x4 x5 x6 x7 x8 : Value) (l : wL) (Q : kS) (v : Int32) (t : wS) : (kLoc 8 (x0 :: x1 :: x2 :: x3 :: x4 :: x5 :: x6 :: x7 :: x8 :: l) Q v t) = (Q 0 none (x0 :: x1 :: x2 :: x3 :: x4 :: x5 :: x6 :: x7 :: .int v :: l) t) := by
  rfl
theorem wr_99 (x0 x1 x2 x3 x4 x5 x6 x7 x8 : Value) (l : wL) (Q : kS) (v : Nat) (t : wS) : (kLocR 8 (x0 :: x1 :: x2 :: x3 :: x4 :: x5 :: x6 :: x7 :: x8 :: l) Q v t) = (Q 0 none (x0 :: x1 :: x2 :: x3 :: x4 :: x5 :: x6 :: x7 :: .ref v :: l) t) := by
  rfl
theorem wr_100 (x0 x1 x2 x3 x4 x5 x6 x7 x8 x9 : Value) (l : wL) (Q : kS) (v : Int32) (t : wS) : (kLoc 9 (x0 :: x1 :: x2 :: x3 :: x4 :: x5 :: x6 :: x7 :: x8 :: x9 :: l) Q v t) = (Q 0 none (x0 :: x1 :: x2 :: x3 :: x4 :: x5 :: x6 :: x7 :: x8 :: .int v :: l) t) := by
  rfl
theorem wr_101 (x0 x1 x2 x3 x4 x5 x6 x7 x8 x9 : Value) (l : wL) (Q : kS) (v : Nat) (t : wS) : (kLocR 9 (x0 :: x1 :: x2 :: x3 :: x4 :: x5 :: x6 :: x7 :: x8 :: x9 :: l) Q v t) = (Q 0 none (x0 :: x1 :: x2 :: x3 :: x4 :: x5 :: x6 :: x7 :: x8 :: .ref v :: l) t) := by
  rfl
theorem wr_102 (k : Nat) (e : wEI) (ls : wL) (t : wS) (Q : kS) : (PS (sLoc k e) ls t Q) = (PE e ls t (kLoc k ls Q)) := by
  unfold PS sLoc PE; simp only [EX_bind, EX_some, EX_none, EX_ite, ite_none]; try rfl
theorem wr_103 (k : Nat) (e : wER) (ls : wL) (t : wS) (Q : kS) : (PS (sLocR k e) ls t Q) = (PR e ls t (kLocR k ls Q)) := by
  unfold PS sLocR PR; simp only [EX_bind, EX_some, EX_none, EX_ite, ite_none]; try rfl
theorem wr_104 (k : Nat) (e : wEL) (ls : wL) (t : wS) (Q : kS) : (PS (sLocL k e) ls t Q) = (PL e ls t (kLocL k ls Q)) := by
  unfold PS sLocL PL; simp only [EX_bind, EX_some, EX_none, EX_ite, ite_none]; try rfl
theorem wr_105 (sh : Nat → Nat × Nat) (ci k : Nat) (a : wER) (e : wEI) (ls : wL) (t : wS) (Q : kS) : (PS (sPut sh ci k a e) ls t Q) = (PR a ls t (kPut sh ci k e ls Q)) := by
  unfold PS sPut PR kPut PE; simp only [EX_bind, EX_some, EX_none, EX_ite, ite_none]; try rfl
theorem wr_106 (sh : Nat → Nat × Nat) (ci k : Nat) (a : wER) (e : wEI) (ls : wL) (t : wS) (Q : kS) : (PS (sPutZ sh ci k a e) ls t Q) = (PR a ls t (kPutZ sh ci k e ls Q)) := by
  unfold PS sPutZ PR kPutZ PE; simp only [EX_bind, EX_some, EX_none, EX_ite, ite_none]; try rfl
theorem wr_107 (sh : Nat → Nat × Nat) (ci k : Nat) (a : wER) (op : Int32 → Int32 → Int32) (e : wEI) (ls : wL) (t : wS) (Q : kS) : (PS (sPutO sh ci k a op e) ls t Q) = (PR a ls t (kPutO sh ci k op e ls Q)) := by
  unfold PS sPutO PR kPutO PE; simp only [EX_bind, EX_some, EX_none, EX_ite, ite_none]; try rfl
theorem wr_108 (sh : Nat → Nat × Nat) (a : wER) (i e : wEI) (ls : wL) (t : wS) (Q : kS) : (PS (sAst sh a i e) ls t Q) = (PR a ls t (kAst sh i e ls Q)) := by
  unfold PS sAst PR kAst kAst2 PE; simp only [EX_bind, EX_some, EX_none, EX_ite, ite_none]; try rfl
theorem wr_109 (sh : Nat → Nat × Nat) (a : wER) (i : wEI) (op : Int32 → Int32 → Int32) (e : wEI) (ls : wL) (t : wS) (Q : kS) : (PS (sAstO sh a i op e) ls t Q) = (PR a ls t (kAstO sh i op e ls Q)) := by
  unfold PS sAstO PR kAstO kAstO2 PE; simp only [EX_bind, EX_some, EX_none, EX_ite, ite_none]; try rfl
theorem wr_110 (sh : Nat → Nat × Nat) (a : wER) (i : wEI) (op : Int32 → Int32 → Int32) (e : wEI) (ls : wL) (t : wS) (Q : kS) : (PS (sAstD sh a i op e) ls t Q) = (PR a ls t (kAstD sh i op e ls Q)) := by
  unfold PS sAstD PR kAstD kAstD2 kAstD3 PE; simp only [EX_bind, EX_some, EX_none, EX_ite, ite_none, ite_not_none]; try rfl
theorem wr_111 (sh : Nat → Nat × Nat) (ci : Nat) (a : wER) (i : wEI) (e : wER) (ls : wL) (t : wS) (Q : kS) : (PS (sAstR sh ci a i e) ls t Q) = (PR a ls t (kAstR sh ci i e ls Q)) := by
  unfold PS sAstR PR kAstR kAstR2 kAstR3 PE; simp only [EX_bind, EX_some, EX_none, EX_ite, ite_none]; try rfl
theorem wr_112 (c : wC) (a b : wSt) (ls : wL) (t : wS) (Q : kS) : (PS (sIf c a b) ls t Q) = (PC c ls t (kIf a b ls Q)) := by
  unfold PS sIf PC; simp only [EX_bind, EX_some, EX_none, EX_ite, ite_none]; try rfl
theorem wr_113 (e : wEI) (ls : wL) (t : wS) (Q : kS) : (PS (sRet e) ls t Q) = (PE e ls t (kRet ls Q)) := by
  unfold PS sRet PE; simp only [EX_bind, EX_some, EX_none, EX_ite, ite_none]; try rfl
theorem wr_114 (e : wEI) (ls : wL) (t : wS) (Q : kS) : (PS (sRetZ e) ls t Q) = (PE e ls t (kRetZ ls Q)) := by
  unfold PS sRetZ PE; simp only [EX_bind, EX_some, EX_none, EX_ite, ite_none]; try rfl
theorem wr_115 (e : wEL) (ls : wL) (t : wS) (Q : kS) : (PS (sRetL e) ls t Q) = (PL e ls t (kRetL ls Q)) := by
  unfold PS sRetL PL; simp only [EX_bind, EX_some, EX_none, EX_ite, ite_none]; try rfl
theorem wr_116  (ls : wL) (t : wS) (Q : kS) : (PS sRetV ls t Q) = (Q 3 none ls t) := by
  unfold PS sRetV; simp only [EX_bind, EX_some, EX_none, EX_ite, ite_none]; try rfl
theorem wr_117  (ls : wL) (t : wS) (Q : kS) : (PS sBrk ls t Q) = (Q 1 none ls t) := by
  unfold PS sBrk; simp only [EX_bind, EX_some, EX_none, EX_ite, ite_none]; try rfl
theorem wr_118  (ls : wL) (t : wS) (Q : kS) : (PS sCon ls t Q) = (Q 2 none ls t) := by
  unfold PS sCon; simp only [EX_bind, EX_some, EX_none, EX_ite, ite_none]; try rfl
theorem wr_119 (e : wEI) (ls : wL) (t : wS) (Q : kS) : (PS (sDrop e) ls t Q) = (PE e ls t (kDrop ls Q)) := by
  unfold PS sDrop PE; simp only [EX_bind, EX_some, EX_none, EX_ite, ite_none]; try rfl
theorem wr_120 (sh : Nat → Nat × Nat) (a : wER) (i : wEI) (b : wER) (j n : wEI) (ls : wL) (t : wS) (Q : kS) : (PS (sCopy sh a i b j n) ls t Q) = (PR a ls t (kCopy sh i b j n ls Q)) := by
  unfold PS sCopy PR kCopy kCopy2 kCopy3 kCopy4 kCopy5 kCopyOk PE; simp only [EX_bind, EX_some, EX_none, EX_ite, ite_none]; try rfl
theorem wr_121 (e : wEI) (cs : List (Int32 × wSt)) (d : wSt) (ls : wL) (t : wS) (Q : kS) : (PS (sSw e cs d) ls t Q) = (PE e ls t (kSw cs d ls Q)) := by
  unfold PS sSw PE kSw; simp only [EX_bind, EX_some, EX_none, EX_ite, ite_none, EX_sw]; try rfl
theorem wr_den (nL : Nat) (b : wSt) (vs : List Value) (t : wS) (Q : Option Value → wS → Prop) : PM (mDen nL b) vs t Q = ((vs.length ≤ nL ∧ vs.all wIR = true) ∧ PS b (vs ++ List.replicate (nL - vs.length) wjk) t (kDen Q)) := by
  unfold PM mDen PS kDen; simp only [EX_bind, EX_some, EX_none, EX_ite, ite_none]
theorem wr_122 (op : Int32 → Int32 → Int32) (x : Int32) (Q : kI) (y : Int32) (t : wS) : (kB2 op x Q y t) = (Q (op x y) t) := by
  rfl
theorem wr_123 (op : Int32 → Int32 → Int32) (b : wEI) (ls : wL) (Q : kI) (x : Int32) (t : wS) : (kB op b ls Q x t) = (PE b ls t (kB2 op x Q)) := by
  rfl
theorem wr_124 (op : Int32 → Int32 → Int32) (x : Int32) (Q : kI) (y : Int32) (t : wS) : (kD2 op x Q y t) = (¬ y = 0 ∧ Q (op x y) t) := by
  rfl
theorem wr_125 (op : Int32 → Int32 → Int32) (b : wEI) (ls : wL) (Q : kI) (x : Int32) (t : wS) : (kD op b ls Q x t) = (PE b ls t (kD2 op x Q)) := by
  rfl
theorem wr_126 (op : Int32 → Int32) (Q : kI) (x : Int32) (t : wS) : (kU op Q x t) = (Q (op x) t) := by
  rfl
theorem wr_127 (sh : Nat → Nat × Nat) (ci k : Nat) (Q : kI) (c : Nat) (t : wS) : (kFld sh ci k Q c t) = (sh c = (0, ci) ∧ Q (t.1 c k) t) := by
  rfl
theorem wr_128 (sh : Nat → Nat × Nat) (ci k : Nat) (Q : Nat → wS → Prop) (c : Nat) (t : wS) : (kFldR sh ci k Q c t) = (sh c = (0, ci) ∧ ¬ t.2 c k = 5000 ∧ Q (t.2 c k) t) := by
  rfl
theorem wr_129 (sh : Nat → Nat × Nat) (c : Nat) (Q : kI) (j : Int32) (t : wS) : (kArr2 sh c Q j t) = ((sh c).1 = 1 ∧ wIn j (sh c).2 = true ∧ Q (t.1 c j.toNatClampNeg) t) := by
  rfl
theorem wr_130 (sh : Nat → Nat × Nat) (i : wEI) (ls : wL) (Q : kI) (c : Nat) (t : wS) : (kArr sh i ls Q c t) = (PE i ls t (kArr2 sh c Q)) := by
  rfl
theorem wr_131 (sh : Nat → Nat × Nat) (c : Nat) (Q : Nat → wS → Prop) (j : Int32) (t : wS) : (kArrR2 sh c Q j t) = (((sh c).1 = 2 ∨ (sh c).1 = 3) ∧ wIn j (sh c).2 = true ∧ ¬ t.2 c j.toNatClampNeg = 5000 ∧ Q (t.2 c j.toNatClampNeg) t) := by
  rfl
theorem wr_132 (sh : Nat → Nat × Nat) (i : wEI) (ls : wL) (Q : Nat → wS → Prop) (c : Nat) (t : wS) : (kArrR sh i ls Q c t) = (PE i ls t (kArrR2 sh c Q)) := by
  rfl
theorem wr_133 (sh : Nat → Nat × Nat) (Q : kI) (c : Nat) (t : wS) : (kLen sh Q c t) = ((sh c).1 = 1 ∧ Q (J ((sh c).2 : Nat)) t) := by
  rfl
theorem wr_134 (a b : wEI) (ls : wL) (Q : kI) (v : Bool) (t : wS) : (kEIf a b ls Q v t) = (if v = true then PE a ls t Q else PE b ls t Q) := by
  rfl
theorem wr_135 (a b : wEL) (ls : wL) (Q : Int64 → wS → Prop) (v : Bool) (t : wS) : (kEIfL a b ls Q v t) = (if v = true then PL a ls t Q else PL b ls t Q) := by
  rfl
theorem wr_136 (Q : kI) (v : Bool) (t : wS) : (kBo Q v t) = (Q (J (if v = true then 1 else 0)) t) := by
  rfl
theorem wr_137 (f : wM) (Q : kI) (vs : List Value) (t : wS) : (kCall f Q vs t) = (PM f vs t (kRI Q)) := by
  rfl
theorem wr_138 (f : wM) (Q : Int64 → wS → Prop) (vs : List Value) (t : wS) : (kCallL f Q vs t) = (PM f vs t (kRL Q)) := by
  rfl
theorem wr_139 (f : wM) (ls : wL) (Q : kS) (vs : List Value) (t : wS) : (kCallN f ls Q vs t) = (PM f vs t (kRN ls Q)) := by
  rfl
theorem wr_140 (v : Int32) (Q : List Value → wS → Prop) (vs : List Value) (t : wS) : (kAI2 v Q vs t) = (Q (.int v :: vs) t) := by
  rfl
theorem wr_141 (r : wAr) (ls : wL) (Q : List Value → wS → Prop) (v : Int32) (t : wS) : (kAI r ls Q v t) = (PA r ls t (kAI2 v Q)) := by
  rfl
theorem wr_142 (c : Nat) (Q : List Value → wS → Prop) (vs : List Value) (t : wS) : (kAR2 c Q vs t) = (Q (.ref c :: vs) t) := by
  rfl
theorem wr_143 (r : wAr) (ls : wL) (Q : List Value → wS → Prop) (c : Nat) (t : wS) : (kAR r ls Q c t) = (PA r ls t (kAR2 c Q)) := by
  rfl
theorem wr_144 (sh : Nat → Nat × Nat) (ci : Nat) (r : wAr) (ls : wL) (Q : List Value → wS → Prop) (c : Nat) (t : wS) : (kAO sh ci r ls Q c t) = (sh c = (0, ci) ∧ PA r ls t (kAR2 c Q)) := by
  rfl
theorem wr_145 (Q : kI) (c : Nat) (t : wS) : (kSLen Q c t) = ((1000 ≤ c ∧ c < 1023) ∧ Q (J ((wLen.getD (c - 1000) 0 : Nat) : Int)) t) := by
  rfl
theorem wr_146 (c : Nat) (Q : kI) (j : Int32) (t : wS) : (kSAt2 c Q j t) = ((1000 ≤ c ∧ c < 1023 ∧ wIn j (wLen.getD (c - 1000) 0) = true) ∧ Q ((wByt.getD (c - 1000) []).getD j.toNatClampNeg 0) t) := by
  rfl
theorem wr_147 (i : wEI) (ls : wL) (Q : kI) (c : Nat) (t : wS) : (kSAt i ls Q c t) = (PE i ls t (kSAt2 c Q)) := by
  rfl
theorem wr_148 (c : Nat) (Q : kI) (j : Int32) (t : wS) : (kSIdx2 c Q j t) = ((1000 ≤ c ∧ c < 1023) ∧ Q (wIdx j (wByt.getD (c - 1000) []) 0) t) := by
  rfl
theorem wr_149 (i : wEI) (ls : wL) (Q : kI) (c : Nat) (t : wS) : (kSIdx i ls Q c t) = (PE i ls t (kSIdx2 c Q)) := by
  rfl
theorem wr_150 (Q : Int64 → wS → Prop) (v : Int32) (t : wS) : (kI2L Q v t) = (Q v.toInt64 t) := by
  rfl
theorem wr_151 (op : Int64 → Int64 → Int64) (x : Int64) (Q : Int64 → wS → Prop) (y : Int64) (t : wS) : (kLB2 op x Q y t) = (Q (op x y) t) := by
  rfl
theorem wr_152 (op : Int64 → Int64 → Int64) (b : wEL) (ls : wL) (Q : Int64 → wS → Prop) (x : Int64) (t : wS) : (kLB op b ls Q x t) = (PL b ls t (kLB2 op x Q)) := by
  rfl
theorem wr_153 (c : ClassFile.Cond) (x : Int32) (Q : Bool → wS → Prop) (y : Int32) (t : wS) : (kCI2 c x Q y t) = (Q (wcmp c x y) t) := by
  rfl
theorem wr_154 (c : ClassFile.Cond) (b : wEI) (ls : wL) (Q : Bool → wS → Prop) (x : Int32) (t : wS) : (kCI c b ls Q x t) = (PE b ls t (kCI2 c x Q)) := by
  rfl
theorem wr_155 (c : ClassFile.Cond) (Q : Bool → wS → Prop) (x : Int32) (t : wS) : (kCZ c Q x t) = (Q (wcmp c x (J 0)) t) := by
  rfl
theorem wr_156 (c : ClassFile.Cond) (x : Int64) (Q : Bool → wS → Prop) (y : Int64) (t : wS) : (kCL2 c x Q y t) = (Q (wcmp c (lg_cmp x y) (J 0)) t) := by
  rfl
theorem wr_157 (c : ClassFile.Cond) (b : wEL) (ls : wL) (Q : Bool → wS → Prop) (x : Int64) (t : wS) : (kCL c b ls Q x t) = (PL b ls t (kCL2 c x Q)) := by
  rfl
theorem wr_158 (b : wC) (ls : wL) (Q : Bool → wS → Prop) (v : Bool) (t : wS) : (kAnd b ls Q v t) = (if v = true then PC b ls t Q else Q false t) := by
  rfl
theorem wr_159 (b : wC) (ls : wL) (Q : Bool → wS → Prop) (v : Bool) (t : wS) : (kOr b ls Q v t) = (if v = true then Q true t else PC b ls t Q) := by
  rfl
theorem wr_160 (Q : Bool → wS → Prop) (v : Bool) (t : wS) : (kNot Q v t) = (Q (!v) t) := by
  rfl
theorem wr_161 (a b : wC) (ls : wL) (Q : Bool → wS → Prop) (v : Bool) (t : wS) : (kCIf a b ls Q v t) = (if v = true then PC a ls t Q else PC b ls t Q) := by
  rfl
theorem wr_162 (sh : Nat → Nat × Nat) (ci k c : Nat) (ls : wL) (Q : kS) (v : Int32) (t : wS) : (kPut2 sh ci k c ls Q v t) = (sh c = (0, ci) ∧ Q 0 none ls (wUI t c k v)) := by
  rfl
theorem wr_163 (sh : Nat → Nat × Nat) (ci k : Nat) (e : wEI) (ls : wL) (Q : kS) (c : Nat) (t : wS) : (kPut sh ci k e ls Q c t) = (PE e ls t (kPut2 sh ci k c ls Q)) := by
  rfl
theorem wr_164 (sh : Nat → Nat × Nat) (ci k c : Nat) (ls : wL) (Q : kS) (v : Int32) (t : wS) : (kPutZ2 sh ci k c ls Q v t) = ((sh c = (0, ci) ∧ (v = 0 ∨ v = 1)) ∧ Q 0 none ls (wUI t c k v)) := by
  rfl
theorem wr_165 (sh : Nat → Nat × Nat) (ci k : Nat) (e : wEI) (ls : wL) (Q : kS) (c : Nat) (t : wS) : (kPutZ sh ci k e ls Q c t) = (PE e ls t (kPutZ2 sh ci k c ls Q)) := by
  rfl
theorem wr_166 (c k : Nat) (op : Int32 → Int32 → Int32) (x : Int32) (ls : wL) (Q : kS) (v : Int32) (t : wS) : (kPutO2 c k op x ls Q v t) = (Q 0 none ls (wUI t c k (op x v))) := by
  rfl
theorem wr_167 (sh : Nat → Nat × Nat) (ci k : Nat) (op : Int32 → Int32 → Int32) (e : wEI) (ls : wL) (Q : kS) (c : Nat) (t : wS) : (kPutO sh ci k op e ls Q c t) = (sh c = (0, ci) ∧ PE e ls t (kPutO2 c k op (t.1 c k) ls Q)) := by
  rfl
theorem wr_168 (sh : Nat → Nat × Nat) (c : Nat) (j : Int32) (ls : wL) (Q : kS) (v : Int32) (t : wS) : (kAst3 sh c j ls Q v t) = (((sh c).1 = 1 ∧ wIn j (sh c).2 = true) ∧ Q 0 none ls (wUI t c j.toNatClampNeg v)) := by
  rfl
theorem wr_169 (sh : Nat → Nat × Nat) (c : Nat) (e : wEI) (ls : wL) (Q : kS) (j : Int32) (t : wS) : (kAst2 sh c e ls Q j t) = (PE e ls t (kAst3 sh c j ls Q)) := by
  rfl
theorem wr_170 (sh : Nat → Nat × Nat) (i e : wEI) (ls : wL) (Q : kS) (c : Nat) (t : wS) : (kAst sh i e ls Q c t) = (PE i ls t (kAst2 sh c e ls Q)) := by
  rfl
theorem wr_171 (c : Nat) (j : Int32) (op : Int32 → Int32 → Int32) (x : Int32) (ls : wL) (Q : kS) (v : Int32) (t : wS) : (kAstO3 c j op x ls Q v t) = (Q 0 none ls (wUI t c j.toNatClampNeg (op x v))) := by
  rfl
theorem wr_172 (sh : Nat → Nat × Nat) (c : Nat) (op : Int32 → Int32 → Int32) (e : wEI) (ls : wL) (Q : kS) (j : Int32) (t : wS) : (kAstO2 sh c op e ls Q j t) = (((sh c).1 = 1 ∧ wIn j (sh c).2 = true) ∧ PE e ls t (kAstO3 c j op (t.1 c j.toNatClampNeg) ls Q)) := by
  rfl
theorem wr_173 (sh : Nat → Nat × Nat) (i : wEI) (op : Int32 → Int32 → Int32) (e : wEI) (ls : wL) (Q : kS) (c : Nat) (t : wS) : (kAstO sh i op e ls Q c t) = (PE i ls t (kAstO2 sh c op e ls Q)) := by
  rfl
theorem wr_174 (c : Nat) (j : Int32) (op : Int32 → Int32 → Int32) (x : Int32) (ls : wL) (Q : kS) (v : Int32) (t : wS) : (kAstD3 c j op x ls Q v t) = (¬ v = 0 ∧ Q 0 none ls (wUI t c j.toNatClampNeg (op x v))) := by
  rfl
theorem wr_175 (sh : Nat → Nat × Nat) (c : Nat) (op : Int32 → Int32 → Int32) (e : wEI) (ls : wL) (Q : kS) (j : Int32) (t : wS) : (kAstD2 sh c op e ls Q j t) = (((sh c).1 = 1 ∧ wIn j (sh c).2 = true) ∧ PE e ls t (kAstD3 c j op (t.1 c j.toNatClampNeg) ls Q)) := by
  rfl
theorem wr_176 (sh : Nat → Nat × Nat) (i : wEI) (op : Int32 → Int32 → Int32) (e : wEI) (ls : wL) (Q : kS) (c : Nat) (t : wS) : (kAstD sh i op e ls Q c t) = (PE i ls t (kAstD2 sh c op e ls Q)) := by
  rfl
theorem wr_177 (sh : Nat → Nat × Nat) (ci c : Nat) (j : Int32) (ls : wL) (Q : kS) (v : Nat) (t : wS) : (kAstR3 sh ci c j ls Q v t) = (((sh c).1 = 3 ∧ wIn j (sh c).2 = true ∧ sh v = (0, ci) ∧ ¬ v = 5000) ∧ Q 0 none ls (wUR t c j.toNatClampNeg v)) := by
  rfl
theorem wr_178 (sh : Nat → Nat × Nat) (ci c : Nat) (e : wER) (ls : wL) (Q : kS) (j : Int32) (t : wS) : (kAstR2 sh ci c e ls Q j t) = (PR e ls t (kAstR3 sh ci c j ls Q)) := by
  rfl
theorem wr_179 (sh : Nat → Nat × Nat) (ci : Nat) (i : wEI) (e : wER) (ls : wL) (Q : kS) (c : Nat) (t : wS) : (kAstR sh ci i e ls Q c t) = (PE i ls t (kAstR2 sh ci c e ls Q)) := by
  rfl
theorem wr_180 (a b : wSt) (ls : wL) (Q : kS) (v : Bool) (t : wS) : (kIf a b ls Q v t) = (if v = true then PS a ls t Q else PS b ls t Q) := by
  rfl
theorem wr_181 (ls : wL) (Q : kS) (v : Int32) (t : wS) : (kRet ls Q v t) = (Q 3 (some (.int v)) ls t) := by
  rfl
theorem wr_182 (ls : wL) (Q : kS) (v : Int32) (t : wS) : (kRetZ ls Q v t) = ((v = 0 ∨ v = 1) ∧ Q 3 (some (.int v)) ls t) := by
  rfl
theorem wr_183 (ls : wL) (Q : kS) (v : Int64) (t : wS) : (kRetL ls Q v t) = (Q 3 (some (.long v)) ls t) := by
  rfl
theorem wr_184 (ls : wL) (Q : kS) (z0 : Int32) (t : wS) : (kDrop ls Q z0 t) = (Q 0 none ls t) := by
  rfl
theorem wr_185 (sh : Nat → Nat × Nat) (p r : Nat) (q z : Int32) (ls : wL) (Q : kS) (y : Int32) (t : wS) : (kCopy5 sh p r q z ls Q y t) = (kCopyOk sh p r q z y ∧ Q 0 none ls (wUC t r (va_cpy (t.1 p) (t.1 r) q.toNatClampNeg z.toNatClampNeg y.toNatClampNeg))) := by
  rfl
theorem wr_186 (sh : Nat → Nat × Nat) (p r : Nat) (q : Int32) (n : wEI) (ls : wL) (Q : kS) (z : Int32) (t : wS) : (kCopy4 sh p r q n ls Q z t) = (PE n ls t (kCopy5 sh p r q z ls Q)) := by
  rfl
theorem wr_187 (sh : Nat → Nat × Nat) (p : Nat) (q : Int32) (j n : wEI) (ls : wL) (Q : kS) (r : Nat) (t : wS) : (kCopy3 sh p q j n ls Q r t) = (PE j ls t (kCopy4 sh p r q n ls Q)) := by
  rfl
theorem wr_188 (sh : Nat → Nat × Nat) (p : Nat) (b : wER) (j n : wEI) (ls : wL) (Q : kS) (q : Int32) (t : wS) : (kCopy2 sh p b j n ls Q q t) = (PR b ls t (kCopy3 sh p q j n ls Q)) := by
  rfl
theorem wr_189 (sh : Nat → Nat × Nat) (i : wEI) (b : wER) (j n : wEI) (ls : wL) (Q : kS) (p : Nat) (t : wS) : (kCopy sh i b j n ls Q p t) = (PE i ls t (kCopy2 sh p b j n ls Q)) := by
  rfl
theorem wr_190 (cs : List (Int32 × wSt)) (d : wSt) (ls : wL) (Q : kS) (v : Int32) (t : wS) : (kSw cs d ls Q v t) = (PS (wSwF v cs d) ls t (kSw2 Q)) := by
  rfl
theorem wr_191 (b : wSt) (Q : kS) (a : Option Value) (ls : wL) (t : wS) : (kSeq b Q 0 a ls t) = (PS b ls t Q) := by
  rfl
theorem wr_192 (Q : kS) (a : Option Value) (ls : wL) (t : wS) : (kSw2 Q 0 a ls t) = (Q 0 a ls t) := by
  rfl
theorem wr_193 (b : wSt) (Q : kS) (a : Option Value) (ls : wL) (t : wS) : (kSeq b Q 1 a ls t) = (Q 1 a ls t) := by
  rfl
theorem wr_194 (Q : kS) (a : Option Value) (ls : wL) (t : wS) : (kSw2 Q 1 a ls t) = (Q 0 none ls t) := by
  rfl
theorem wr_195 (b : wSt) (Q : kS) (a : Option Value) (ls : wL) (t : wS) : (kSeq b Q 2 a ls t) = (Q 2 a ls t) := by
  rfl
theorem wr_196 (Q : kS) (a : Option Value) (ls : wL) (t : wS) : (kSw2 Q 2 a ls t) = (Q 2 a ls t) := by
  rfl
theorem wr_197 (b : wSt) (Q : kS) (a : Option Value) (ls : wL) (t : wS) : (kSeq b Q 3 a ls t) = (Q 3 a ls t) := by
  rfl
theorem wr_198 (Q : kS) (a : Option Value) (ls : wL) (t : wS) : (kSw2 Q 3 a ls t) = (Q 3 a ls t) := by
  rfl
theorem wr_199 (Q : Option Value → wS → Prop) (a : Option Value) (ls : wL) (t : wS) : (kDen Q 3 a ls t) = (Q a t) := by
  simp [kDen]
theorem wr_200 (Q : Option Value → wS → Prop) (a : Option Value) (ls : wL) (t : wS) : (kDen Q 0 a ls t) = (False) := by
  simp [kDen]
theorem wr_201 (Q : Option Value → wS → Prop) (a : Option Value) (ls : wL) (t : wS) : (kDen Q 1 a ls t) = (False) := by
  simp [kDen]
theorem wr_202 (Q : Option Value → wS → Prop) (a : Option Value) (ls : wL) (t : wS) : (kDen Q 2 a ls t) = (False) := by
  simp [kDen]
theorem wr_203 (Q : kI) (v : Int32) (t : wS) : (kRI Q (some (.int v)) t) = (Q v t) := by
  rfl
theorem wr_204 (Q : Int64 → wS → Prop) (v : Int64) (t : wS) : (kRL Q (some (.long v)) t) = (Q v t) := by
  rfl
theorem wr_205 (ls : wL) (Q : kS) (t : wS) : (kRN ls Q none t) = (Q 0 none ls t) := by
  rfl
theorem wr_206 (x : Int32) (d : wSt) : (wSwF x [] d) = (d) := by
  rfl
theorem wr_207 (x k : Int32) (b : wSt) (cs : List (Int32 × wSt)) (d : wSt) : (wSwF x ((k, b) :: cs) d) = (if x = k then b else wSwF x cs d) := by
  rfl
theorem wr_208 (c : Prop) (hc : Decidable c) (a b : wSt) (ls : wL) (t : wS) (Q : kS) : (PS (@ite _ c hc a b) ls t Q) = (@ite _ c hc (PS a ls t Q) (PS b ls t Q)) := by
  by_cases h : c <;> simp [h]
