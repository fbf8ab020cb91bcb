theorem wBel_nil {n : Nat} : wBel n [] := fun c h => by cases h
theorem wBel_int {n : Nat} {x : Int32} {vs : List Value} (h : wBel n vs) : wBel n (.int x :: vs) := fun c hc => by
  rcases List.mem_cons.mp hc with h1 | h1
  · cases h1
  · exact h c h1
theorem wBel_jk {n : Nat} {vs : List Value} (h : wBel n vs) : wBel n (wjk :: vs) := fun c hc => by
  rcases List.mem_cons.mp hc with h1 | h1
  · cases h1
  · exact h c h1
theorem wBel_ref {n a : Nat} {vs : List Value} (ha : a < n) (h : wBel n vs) : wBel n (.ref a :: vs) := fun c hc => by
  rcases List.mem_cons.mp hc with h1 | h1
  · cases h1
    exact Or.inl ha
  · exact h c h1
theorem wBel_hi {n a : Nat} {vs : List Value} (ha : 1000 ≤ a) (h : wBel n vs) : wBel n (.ref a :: vs) := fun c hc => by
  rcases List.mem_cons.mp hc with h1 | h1
  · cases h1
    exact Or.inr ha
  · exact h c h1
theorem wUR_at {t : wS} {c k r a b : Nat} : (wUR t c k r).2 a b = if a = c then (if b = k then r else t.2 c b) else t.2 a b := by
  unfold wUR va_up
  by_cases h : a = c
  · simp only [h, if_true]
  · simp only [h, if_false]
theorem wUR_ns {t : wS} {c k r b : Nat} (h : b ≠ k) : (wUR t c k r).2 c b = t.2 c b := by rw [wUR_at, if_pos rfl, if_neg h]
theorem wUR_ne {t : wS} {c k r a b : Nat} (h : a ≠ c) : (wUR t c k r).2 a b = t.2 a b := by rw [wUR_at, if_neg h]
theorem h5000 {n : Nat} (h : n < 1000) : ¬ n = 5000 := by omega
theorem eFldR_this {sh : Nat → Nat × Nat} {c ci k v : Nat} {ls : wL} {t : wS} (h1 : sh c = (0, ci)) (h2 : t.2 c k = v) (h3 : ¬ v = 5000) : eFldR sh ci k (eLocR 0) (.ref c :: ls) t = some (v, t) := by
  subst h2
  simp only [mDen, sSeq, sLoc, sLocR, sLocL, sInc, sPut, sPutZ, sPutO, sAst, sAstO, sAstD, sAstR, sIf, sRet, sRetZ, sRetL, sRetV, sBrk, sCon, sCall, sDrop, sCopy, sSkip, sSw, wSwF, eI, eLoc, eLocR, eLocL, eFld, eFldR, eArr, eArrR, eLen, eB, eD, eU, eIf, eIfL, eBo, eCall, eCallL, aN, aI, aR, aO, eStr, eSLen, eSAt, eSIdx, eLI, eI2L, eLB, cI, cZ, cL, cAnd, cOr, cNot, cIf, Option.bind_some, Option.bind_none, List.getElem?_cons_zero, List.getElem?_cons_succ, List.set_cons_zero, List.set_cons_succ, List.length_cons, List.length_nil, List.all_cons, List.all_nil, wIR, List.cons_append, List.nil_append, List.append_nil, List.reduceReplicate, Bool.and_true, Bool.true_and, Bool.and_self, and_true, true_and, and_self, if_true, if_false, reduceCtorEq, Nat.reduceAdd, Nat.reduceSub, Nat.reduceLeDiff, Nat.zero_add, Nat.le_refl, Nat.sub_self, List.replicate_zero, List.replicate_succ, wcmp, decide_eq_true_eq, Bool.false_eq_true, Bool.not_true, Bool.not_false, Bool.not_eq_true, Nat.reduceEqDiff, Nat.succ_ne_zero, Nat.one_ne_zero, Nat.zero_ne_one, not_true_eq_false, not_false_eq_true, decide_true, decide_false, ↓reduceIte, h1, h3]
theorem sPut_this {sh : Nat → Nat × Nat} {c ci k : Nat} {v : Int32} {ls : wL} {t : wS} (h1 : sh c = (0, ci)) : sPut sh ci k (eLocR 0) (eI v) (.ref c :: ls) t = some (0, none, .ref c :: ls, wUI t c k v) := by
  simp only [mDen, sSeq, sLoc, sLocR, sLocL, sInc, sPut, sPutZ, sPutO, sAst, sAstO, sAstD, sAstR, sIf, sRet, sRetZ, sRetL, sRetV, sBrk, sCon, sCall, sDrop, sCopy, sSkip, sSw, wSwF, eI, eLoc, eLocR, eLocL, eFld, eFldR, eArr, eArrR, eLen, eB, eD, eU, eIf, eIfL, eBo, eCall, eCallL, aN, aI, aR, aO, eStr, eSLen, eSAt, eSIdx, eLI, eI2L, eLB, cI, cZ, cL, cAnd, cOr, cNot, cIf, Option.bind_some, Option.bind_none, List.getElem?_cons_zero, List.getElem?_cons_succ, List.set_cons_zero, List.set_cons_succ, List.length_cons, List.length_nil, List.all_cons, List.all_nil, wIR, List.cons_append, List.nil_append, List.append_nil, List.reduceReplicate, Bool.and_true, Bool.true_and, Bool.and_self, and_true, true_and, and_self, if_true, if_false, reduceCtorEq, Nat.reduceAdd, Nat.reduceSub, Nat.reduceLeDiff, Nat.zero_add, Nat.le_refl, Nat.sub_self, List.replicate_zero, List.replicate_succ, wcmp, decide_eq_true_eq, Bool.false_eq_true, Bool.not_true, Bool.not_false, Bool.not_eq_true, Nat.reduceEqDiff, Nat.succ_ne_zero, Nat.one_ne_zero, Nat.zero_ne_one, not_true_eq_false, not_false_eq_true, decide_true, decide_false, ↓reduceIte, h1]
def e_RX8_last (K : Nat) (c n : Nat) (t : wS) : wS := wUI t n 0 1
theorem fr_RX8_last (K : Nat) {c n m : Nat} {t : wS} (hF : Fr t m) (h : n < m) : Fr (e_RX8_last K c n t) m := Fr.int hF rfl (fun q hq => if_neg (by omega))
theorem rest_RX8 (K : Nat) {sh : Nat → Nat × Nat} {t : wS} {c n : Nat} (h1 : sh c = (0, 8)) (h2 : t.2 c 7 = n) (h3 : sh n = (1, 201)) (h5 : n < 1000) : (sAst sh (eFldR sh 8 7 (eLocR 0)) (eI 0) (eI 1)) [.ref c] t = some (0, none, [.ref c], e_RX8_last K c n t) := by
  have h4 : ¬ n = 5000 := by omega
  have h6 : wIn 0 201 = true := by decide
  simp only [mDen, sSeq, sLoc, sLocR, sLocL, sInc, sPut, sPutZ, sPutO, sAst, sAstO, sAstD, sAstR, sIf, sRet, sRetZ, sRetL, sRetV, sBrk, sCon, sCall, sDrop, sCopy, sSkip, sSw, wSwF, eI, eLoc, eLocR, eLocL, eFld, eFldR, eArr, eArrR, eLen, eB, eD, eU, eIf, eIfL, eBo, eCall, eCallL, aN, aI, aR, aO, eStr, eSLen, eSAt, eSIdx, eLI, eI2L, eLB, cI, cZ, cL, cAnd, cOr, cNot, cIf, Option.bind_some, Option.bind_none, List.getElem?_cons_zero, List.getElem?_cons_succ, List.set_cons_zero, List.set_cons_succ, List.length_cons, List.length_nil, List.all_cons, List.all_nil, wIR, List.cons_append, List.nil_append, List.append_nil, List.reduceReplicate, Bool.and_true, Bool.true_and, Bool.and_self, and_true, true_and, and_self, if_true, if_false, reduceCtorEq, Nat.reduceAdd, Nat.reduceSub, Nat.reduceLeDiff, Nat.zero_add, Nat.le_refl, Nat.sub_self, List.replicate_zero, List.replicate_succ, wcmp, decide_eq_true_eq, Bool.false_eq_true, Bool.not_true, Bool.not_false, Bool.not_eq_true, Nat.reduceEqDiff, Nat.succ_ne_zero, Nat.one_ne_zero, Nat.zero_ne_one, not_true_eq_false, not_false_eq_true, decide_true, decide_false, ↓reduceIte, h1, h2, h3, h4, h6]
  rfl
def w99 (f : Nat → Int32) : Nat → Int32 := fun j => if j < 201 then 99 else f j
def e_RX7_last (K : Nat) (c n : Nat) (t : wS) : wS := wUC (wUC t (n + 5) (w99 (t.1 (n + 5)))) (n + 6) (w99 (t.1 (n + 6)))
theorem fr_RX7_last (K : Nat) {c n m : Nat} {t : wS} (hF : Fr t m) (h : n + 6 < m) : Fr (e_RX7_last K c n t) m := Fr.int hF rfl (fun q hq => by
  show (if q = n + 6 then _ else (if q = n + 5 then _ else t.1 q)) = _
  rw [if_neg (by omega), if_neg (by omega)])
def e_RX12_last (K : Nat) (c n : Nat) (t : wS) : wS := wUC t n (fun j => if j < 5 then 0 else if j = 7 then 1 else if 7 < j ∧ j < 208 then 0 else if j = 209 then 1 else if j = 210 then 10 else if 272 ≤ j ∧ j < 674 then 98 else t.1 n j)
theorem fr_RX12_last (K : Nat) {c n m : Nat} {t : wS} (hF : Fr t m) (h : n < m) : Fr (e_RX12_last K c n t) m := Fr.int hF rfl (fun q hq => if_neg (by omega))
