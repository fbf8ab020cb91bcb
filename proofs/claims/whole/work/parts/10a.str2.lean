/-! loops: by the states that they come through -/
def wStep (c : wC) (b u : wSt) (ls : wL) (t : wS) : Option ((wL × wS) ⊕ wO) := (c ls t).bind fun p => if p.1 = true then (b ls p.2).bind fun o => if o.1 = 1 then some (.inr (0, none, o.2.2.1, o.2.2.2)) else if o.1 = 3 then some (.inr o) else (u o.2.2.1 o.2.2.2).bind fun q => if q.1 = 0 then some (.inl (q.2.2.1, q.2.2.2)) else none else some (.inr (0, none, ls, p.2))
theorem sWh_inl {c : wC} {b u : wSt} {k : Nat} {ls ls2 : wL} {t t2 : wS} (h : wStep c b u ls t = some (.inl (ls2, t2))) : sWh c b u (k + 1) ls t = sWh c b u k ls2 t2 := by
  show ((c ls t).bind fun p => _) = _
  unfold wStep at h
  obtain ⟨p, h1, h⟩ := ob_some h
  rw [h1]
  show (if p.1 = true then _ else _) = _
  by_cases hp : p.1 = true
  · rw [if_pos hp] at h ⊢
    obtain ⟨o, h2, h⟩ := ob_some h
    rw [h2]
    show (if o.1 = 1 then _ else _) = _
    by_cases e1 : o.1 = 1
    · rw [if_pos e1] at h
      cases h
    · rw [if_neg e1] at h ⊢
      by_cases e3 : o.1 = 3
      · rw [if_pos e3] at h
        cases h
      · rw [if_neg e3] at h ⊢
        obtain ⟨q, h3, h⟩ := ob_some h
        rw [h3]
        show (if q.1 = 0 then _ else _) = _
        by_cases e0 : q.1 = 0
        · rw [if_pos e0] at h ⊢
          cases h
          rfl
        · rw [if_neg e0] at h
          cases h
  · rw [if_neg hp] at h
    cases h
theorem sWh_inr {c : wC} {b u : wSt} {k : Nat} {ls : wL} {t : wS} {o : wO} (h : wStep c b u ls t = some (.inr o)) : sWh c b u (k + 1) ls t = some o := by
  show ((c ls t).bind fun p => _) = _
  unfold wStep at h
  obtain ⟨p, h1, h⟩ := ob_some h
  rw [h1]
  show (if p.1 = true then _ else _) = _
  by_cases hp : p.1 = true
  · rw [if_pos hp] at h ⊢
    obtain ⟨o, h2, h⟩ := ob_some h
    rw [h2]
    show (if o.1 = 1 then _ else _) = _
    by_cases e1 : o.1 = 1
    · rw [if_pos e1] at h ⊢
      cases h
      rfl
    · rw [if_neg e1] at h ⊢
      by_cases e3 : o.1 = 3
      · rw [if_pos e3] at h ⊢
        cases h
        rfl
      · rw [if_neg e3] at h ⊢
        obtain ⟨q, h3, h⟩ := ob_some h
        by_cases e0 : q.1 = 0
        · rw [if_pos e0] at h
          cases h
        · rw [if_neg e0] at h
          cases h
  · rw [if_neg hp] at h ⊢
    cases h
    rfl
/-- n rounds through the states S 0 .. S n, and the end there -/
theorem sWh_run {c : wC} {b u : wSt} (n : Nat) (L : Nat → wL) (T : Nat → wS) {o : wO} (h : ∀ i, i < n → wStep c b u (L i) (T i) = some (.inl (L (i + 1), T (i + 1)))) (he : wStep c b u (L n) (T n) = some (.inr o)) {K : Nat} (hK : n < K) : sWh c b u K (L 0) (T 0) = some o := by
  have key : ∀ (j i : Nat), i + j = n → ∀ K, j < K → sWh c b u K (L i) (T i) = some o := by
    intro j
    induction j with
    | zero =>
      intro i hi K hK
      obtain ⟨K, rfl⟩ : ∃ k, K = k + 1 := ⟨K - 1, by omega⟩
      have : i = n := by omega
      subst this
      exact sWh_inr he
    | succ j ih =>
      intro i hi K hK
      obtain ⟨K, rfl⟩ : ∃ k, K = k + 1 := ⟨K - 1, by omega⟩
      rw [sWh_inl (h i (by omega))]
      exact ih (i + 1) (by omega) K (by omega)
  exact key n 0 (by omega) K hK
/-! what the String members answer -/
theorem w_strs : ∀ k, k < 23 → ((wByt.getD k []).length = wLen.getD k 0 ∧ wLen.getD k 0 < 200 ∧ (wByt.getD k []).all (fun b => decide (0 ≤ b) && decide (b < 128)) = true) := by decide +kernel
theorem w_ch : ∀ n, n < 128 → (oI2c (oAnd (nI n) 255) = nI n ∧ narrow .char (.int (nI n)) = .int (nI n) ∧ oI2b (nI n) = nI n) := by decide +kernel
theorem w_ch2 : ∀ n, n < 256 → 128 ≤ n → oI2b (nI n) < 0 := by decide +kernel
theorem i_ofn {x : Int32} (h : 0 ≤ x) : ∃ n : Nat, x = nI n ∧ n < 2 ^ 31 ∧ x.toNatClampNeg = n := by
  refine ⟨x.toNatClampNeg, ?_, ?_, rfl⟩
  · rw [← Int32.toInt_inj, nI_toInt]
    · rw [Int32.le_iff_toInt_le, Int32.toInt_zero] at h
      show x.toInt = (x.toInt.toNat : Int)
      omega
    · have := Int32.toInt_lt x
      show x.toInt.toNat < _
      omega
  · have := Int32.toInt_lt x
    show x.toInt.toNat < _
    omega
theorem w_byte {k : Nat} (hk : k < 23) {j : Nat} (hj : j < wLen.getD k 0) : ∃ n, n < 128 ∧ (wByt.getD k []).getD j 0 = nI n := by
  obtain ⟨h1, -, h3⟩ := w_strs k hk
  have hjl : j < (wByt.getD k []).length := by omega
  have hm := List.all_eq_true.mp h3 _ (List.getElem_mem hjl)
  simp only [Bool.and_eq_true, decide_eq_true_eq] at hm
  have he : (wByt.getD k []).getD j 0 = (wByt.getD k [])[j] := by rw [List.getD_eq_getElem?_getD, List.getElem?_eq_getElem hjl]; rfl
  obtain ⟨n, hn, hn2, -⟩ := i_ofn hm.1
  refine ⟨n, ?_, he.trans hn⟩
  have := hm.2
  rw [hn, Int32.lt_iff_toInt_lt, nI_toInt hn2] at this
  have e : (128 : Int32).toInt = 128 := by decide
  omega
theorem eSLen_den {k : Nat} (hk : k < 23) (sh : Nat → Nat × Nat) (t : wS) : nS_len sh [.ref (1000 + k)] t = some (some (.int (Int32.ofNat (wLen.getD k 0))), t) := by
  have h1 : 1000 ≤ 1000 + k ∧ 1000 + k < 1023 := by omega
  have h2 : 2000 ≤ 1000 + k + 1000 ∧ 1000 + k + 1000 < 2023 := by omega
  have h3 : 1000 + k + 1000 - 2000 = k := by omega
  have h4 : ¬ (1 : Int32) = 0 := by decide
  have h5 : ∀ x : Int32, oShr x 0 = x := fun x => by
    unfold oShr
    rw [show (0 : Int32) &&& 31 = 0 by decide]
    simp
  have h6 : narrow .byte (.int 0) = .int 0 := by decide
  simp only [nS_len, nS_coder, mDen, sSeq, sLoc, sLocR, sLocL, sInc, sPut, sPutZ, sPutO, sAst, sAstO, sAstD, sAstR, sIf, sRet, sRetZ, sRetL, sRetV, sBrk, sCon, sCall, sDrop, sCopy, sSkip, sSw, wSwF, eI, eLoc, eLocR, eLocL, eFld, eFldR, eArr, eArrR, eLen, eB, eD, eU, eIf, eIfL, eBo, eCall, eCallL, aN, aI, aR, aO, eStr, eSLen, eSAt, eSIdx, eLI, eI2L, eLB, cI, cZ, cL, cAnd, cOr, cNot, cIf, Option.bind_some, Option.bind_none, List.getElem?_cons_zero, List.getElem?_cons_succ, List.set_cons_zero, List.set_cons_succ, List.length_cons, List.length_nil, List.all_cons, List.all_nil, wIR, List.cons_append, List.nil_append, List.append_nil, List.reduceReplicate, Bool.and_true, Bool.true_and, Bool.and_self, and_true, true_and, and_self, if_true, if_false, reduceCtorEq, Nat.reduceAdd, Nat.reduceSub, Nat.reduceLeDiff, Nat.zero_add, Nat.le_refl, Nat.sub_self, List.replicate_zero, List.replicate_succ, wcmp, decide_eq_true_eq, Bool.false_eq_true, Bool.not_true, Bool.not_false, Bool.not_eq_true, Nat.reduceEqDiff, Nat.succ_ne_zero, Nat.one_ne_zero, Nat.zero_ne_one, not_true_eq_false, not_false_eq_true, decide_true, decide_false, ↓reduceIte, eCs, eSVal, eSCo, eBLen, eBAt, sRetN, aS, sCk, h1, h2, h3, h4, h5, h6]
theorem eSAt_den {k : Nat} (hk : k < 23) {i : Int32} (hi : wIn i (wLen.getD k 0) = true) (sh : Nat → Nat × Nat) (t : wS) : nS_chr sh [.ref (1000 + k), .int i] t = some (some (.int ((wByt.getD k []).getD i.toNatClampNeg 0)), t) := by
  have h1 : 1000 ≤ 1000 + k ∧ 1000 + k < 1023 := by omega
  have h2 : 2000 ≤ 1000 + k + 1000 ∧ 1000 + k + 1000 < 2023 := by omega
  have h2a : 2000 ≤ 1000 + k + 1000 := h2.1
  have h2b : 1000 + k + 1000 < 2023 := h2.2
  have h3 : 1000 + k + 1000 - 2000 = k := by omega
  have h4 : ¬ (1 : Int32) = 0 := by decide
  have hin := wIn_in hi
  have h5 : i.toNatClampNeg < wLen.getD k 0 := Nat.lt_of_not_le fun q => hin (Or.inr q)
  have h0 : ¬ i < 0 := fun q => hin (Or.inl q)
  have hlt : i < Int32.ofNat (wLen.getD k 0) := by
    have := (w_strs k hk).2.1
    obtain ⟨n, hn, hn2, hn3⟩ := i_ofn (i_nlt.mp h0)
    rw [hn3] at h5
    rw [hn]
    exact nI_lt h5 (by omega)
  obtain ⟨n, hn, hb⟩ := w_byte hk h5
  obtain ⟨hc1, hc2, -⟩ := w_ch n hn
  simp only [nS_chr, bS_chr, nS_lat, nS_lat_at, bS_at, nS_ck, mDen, sSeq, sLoc, sLocR, sLocL, sInc, sPut, sPutZ, sPutO, sAst, sAstO, sAstD, sAstR, sIf, sRet, sRetZ, sRetL, sRetV, sBrk, sCon, sCall, sDrop, sCopy, sSkip, sSw, wSwF, eI, eLoc, eLocR, eLocL, eFld, eFldR, eArr, eArrR, eLen, eB, eD, eU, eIf, eIfL, eBo, eCall, eCallL, aN, aI, aR, aO, eStr, eSLen, eSAt, eSIdx, eLI, eI2L, eLB, cI, cZ, cL, cAnd, cOr, cNot, cIf, Option.bind_some, Option.bind_none, List.getElem?_cons_zero, List.getElem?_cons_succ, List.set_cons_zero, List.set_cons_succ, List.length_cons, List.length_nil, List.all_cons, List.all_nil, wIR, List.cons_append, List.nil_append, List.append_nil, List.reduceReplicate, Bool.and_true, Bool.true_and, Bool.and_self, and_true, true_and, and_self, if_true, if_false, reduceCtorEq, Nat.reduceAdd, Nat.reduceSub, Nat.reduceLeDiff, Nat.zero_add, Nat.le_refl, Nat.sub_self, List.replicate_zero, List.replicate_succ, wcmp, decide_eq_true_eq, Bool.false_eq_true, Bool.not_true, Bool.not_false, Bool.not_eq_true, Nat.reduceEqDiff, Nat.succ_ne_zero, Nat.one_ne_zero, Nat.zero_ne_one, not_true_eq_false, not_false_eq_true, decide_true, decide_false, ↓reduceIte, eCs, eSVal, eSCo, eBLen, eBAt, sRetN, aS, sCk, h1, h2, h2a, h2b, h3, h4, h0, hlt, hi, hb, hc1, hc2, or_true]
theorem wIdx_none {c : Int32} : ∀ (l : List Int32) (k : Nat), (∀ b ∈ l, ¬ b = c) → wIdx c l k = -1
  | [], _, _ => rfl
  | b :: l, k, h => by
    unfold wIdx
    rw [if_neg (h b List.mem_cons_self)]
    exact wIdx_none l (k + 1) (fun x hx => h x (List.mem_cons_of_mem _ hx))
theorem eSIdx_den {k : Nat} (hk : k < 23) (c : Int32) (sh : Nat → Nat × Nat) (t : wS) {K : Nat} (hK : 300 ≤ K) : nS_ix1 K sh [.ref (1000 + k), .int c] t = some (some (.int (wIdx c (wByt.getD k []) 0)), t) := by
  have h1 : 1000 ≤ 1000 + k ∧ 1000 + k < 1023 := by omega
  have h2 : 2000 ≤ 1000 + k + 1000 ∧ 1000 + k + 1000 < 2023 := by omega
  have h2a : 2000 ≤ 1000 + k + 1000 := h2.1
  have h2b : 1000 + k + 1000 < 2023 := h2.2
  have h3 : 1000 + k + 1000 - 2000 = k := by omega
  have h10 : ¬ (1 : Int32) = 0 := by decide
  obtain ⟨g1, g2, -⟩ := w_strs k hk
  have hlat : nS_lat sh [.ref (1000 + k)] t = some (some (.int 1), t) := by
    simp only [nS_lat, mDen, sSeq, sLoc, sLocR, sLocL, sInc, sPut, sPutZ, sPutO, sAst, sAstO, sAstD, sAstR, sIf, sRet, sRetZ, sRetL, sRetV, sBrk, sCon, sCall, sDrop, sCopy, sSkip, sSw, wSwF, eI, eLoc, eLocR, eLocL, eFld, eFldR, eArr, eArrR, eLen, eB, eD, eU, eIf, eIfL, eBo, eCall, eCallL, aN, aI, aR, aO, eStr, eSLen, eSAt, eSIdx, eLI, eI2L, eLB, cI, cZ, cL, cAnd, cOr, cNot, cIf, Option.bind_some, Option.bind_none, List.getElem?_cons_zero, List.getElem?_cons_succ, List.set_cons_zero, List.set_cons_succ, List.length_cons, List.length_nil, List.all_cons, List.all_nil, wIR, List.cons_append, List.nil_append, List.append_nil, List.reduceReplicate, Bool.and_true, Bool.true_and, Bool.and_self, and_true, true_and, and_self, if_true, if_false, reduceCtorEq, Nat.reduceAdd, Nat.reduceSub, Nat.reduceLeDiff, Nat.zero_add, Nat.le_refl, Nat.sub_self, List.replicate_zero, List.replicate_succ, wcmp, decide_eq_true_eq, Bool.false_eq_true, Bool.not_true, Bool.not_false, Bool.not_eq_true, Nat.reduceEqDiff, Nat.succ_ne_zero, Nat.one_ne_zero, Nat.zero_ne_one, not_true_eq_false, not_false_eq_true, decide_true, decide_false, ↓reduceIte, eCs, eSVal, eSCo, eBLen, eBAt, sRetN, aS, sCk, h1, h10, or_true]
  have hlen := eSLen_den hk sh t
  have hall : ∀ j, j < wLen.getD k 0 → ∃ n, n < 128 ∧ (wByt.getD k []).getD j 0 = nI n := fun j hj => w_byte hk hj
  generalize hbs : wByt.getD k [] = bs at g1 hall ⊢
  generalize hL : wLen.getD k 0 = len at g1 g2 hall hlen
  have hmem : ∀ b ∈ bs, ∃ n, n < 128 ∧ b = nI n := by
    intro b hb
    obtain ⟨j, hj, hj2⟩ := List.getElem_of_mem hb
    obtain ⟨n, hn, hn2⟩ := hall j (by omega)
    refine ⟨n, hn, ?_⟩
    rw [List.getD_eq_getElem?_getD, List.getElem?_eq_getElem hj] at hn2
    rw [← hj2]
    exact hn2
  have key : nS_lix K sh [.ref (1000 + k + 1000), .int c, .int 0, .int (Int32.ofNat len)] t = some (some (.int (wIdx c bs 0)), t) := by
    by_cases hc : 0 ≤ c ∧ c ≤ 255
    · obtain ⟨n, hn, hn2, -⟩ := i_ofn hc.1
      have hn3 : n < 256 := by
        have := hc.2
        rw [hn, Int32.le_iff_toInt_le, nI_toInt hn2] at this
        have e : (255 : Int32).toInt = 255 := by decide
        omega
      have hcan : nS_can sh [.int c] t = some (some (.int 1), t) := by
        simp only [nS_can, mDen, sSeq, sLoc, sLocR, sLocL, sInc, sPut, sPutZ, sPutO, sAst, sAstO, sAstD, sAstR, sIf, sRet, sRetZ, sRetL, sRetV, sBrk, sCon, sCall, sDrop, sCopy, sSkip, sSw, wSwF, eI, eLoc, eLocR, eLocL, eFld, eFldR, eArr, eArrR, eLen, eB, eD, eU, eIf, eIfL, eBo, eCall, eCallL, aN, aI, aR, aO, eStr, eSLen, eSAt, eSIdx, eLI, eI2L, eLB, cI, cZ, cL, cAnd, cOr, cNot, cIf, Option.bind_some, Option.bind_none, List.getElem?_cons_zero, List.getElem?_cons_succ, List.set_cons_zero, List.set_cons_succ, List.length_cons, List.length_nil, List.all_cons, List.all_nil, wIR, List.cons_append, List.nil_append, List.append_nil, List.reduceReplicate, Bool.and_true, Bool.true_and, Bool.and_self, and_true, true_and, and_self, if_true, if_false, reduceCtorEq, Nat.reduceAdd, Nat.reduceSub, Nat.reduceLeDiff, Nat.zero_add, Nat.le_refl, Nat.sub_self, List.replicate_zero, List.replicate_succ, wcmp, decide_eq_true_eq, Bool.false_eq_true, Bool.not_true, Bool.not_false, Bool.not_eq_true, Nat.reduceEqDiff, Nat.succ_ne_zero, Nat.one_ne_zero, Nat.zero_ne_one, not_true_eq_false, not_false_eq_true, decide_true, decide_false, ↓reduceIte, eCs, eSVal, eSCo, eBLen, eBAt, sRetN, aS, sCk, hc.1, hc.2, or_true]
      have hbyte : ∀ b ∈ bs, (b = oI2b c ↔ b = c) := by
        intro b hb
        obtain ⟨m, hm, rfl⟩ := hmem b hb
        subst hn
        by_cases h : n < 128
        · rw [(w_ch n h).2.2]
        · have hneg := w_ch2 n hn3 (by omega)
          constructor
          · intro e
            rw [← e] at hneg
            exact absurd hneg (nI_pos (by omega))
          · intro e
            have : m = n := by
              have e2 := congrArg Int32.toInt e
              rw [nI_toInt (by omega), nI_toInt (by omega)] at e2
              omega
            omega
      have loop : ∀ (l : List Int32) (i : Nat), bs.drop i = l → i + l.length = len → ∀ K, l.length < K → ∃ ls2, sWh (cI .lt (eLoc 5) (eLoc 3)) (sIf (cI .eq (eBAt (eLocR 0) (eLoc 5)) (eLoc 4)) (sRet (eLoc 5)) sSkip) (sInc 5 1) K [.ref (1000 + k + 1000), .int c, .int 0, .int (Int32.ofNat len), .int (oI2b c), .int (nI i)] t = some (if wIdx c l i = -1 then (0, none, ls2, t) else (3, some (.int (wIdx c l i)), ls2, t)) := by
        intro l
        induction l with
        | nil =>
          intro i hd hl K hK
          obtain ⟨K, rfl⟩ : ∃ q, K = q + 1 := ⟨K - 1, by omega⟩
          refine ⟨[.ref (1000 + k + 1000), .int c, .int 0, .int (Int32.ofNat len), .int (oI2b c), .int (nI i)], ?_⟩
          have hi : i = len := by simpa using hl
          rw [show wIdx c [] i = -1 from rfl, if_pos rfl]
          refine sWh_inr ?_
          have hlt : ¬ nI i < Int32.ofNat len := by rw [hi]; exact nI_nlt (Nat.le_refl _) (by omega)
          simp only [wStep, mDen, sSeq, sLoc, sLocR, sLocL, sInc, sPut, sPutZ, sPutO, sAst, sAstO, sAstD, sAstR, sIf, sRet, sRetZ, sRetL, sRetV, sBrk, sCon, sCall, sDrop, sCopy, sSkip, sSw, wSwF, eI, eLoc, eLocR, eLocL, eFld, eFldR, eArr, eArrR, eLen, eB, eD, eU, eIf, eIfL, eBo, eCall, eCallL, aN, aI, aR, aO, eStr, eSLen, eSAt, eSIdx, eLI, eI2L, eLB, cI, cZ, cL, cAnd, cOr, cNot, cIf, Option.bind_some, Option.bind_none, List.getElem?_cons_zero, List.getElem?_cons_succ, List.set_cons_zero, List.set_cons_succ, List.length_cons, List.length_nil, List.all_cons, List.all_nil, wIR, List.cons_append, List.nil_append, List.append_nil, List.reduceReplicate, Bool.and_true, Bool.true_and, Bool.and_self, and_true, true_and, and_self, if_true, if_false, reduceCtorEq, Nat.reduceAdd, Nat.reduceSub, Nat.reduceLeDiff, Nat.zero_add, Nat.le_refl, Nat.sub_self, List.replicate_zero, List.replicate_succ, wcmp, decide_eq_true_eq, Bool.false_eq_true, Bool.not_true, Bool.not_false, Bool.not_eq_true, Nat.reduceEqDiff, Nat.succ_ne_zero, Nat.one_ne_zero, Nat.zero_ne_one, not_true_eq_false, not_false_eq_true, decide_true, decide_false, ↓reduceIte, eCs, eSVal, eSCo, eBLen, eBAt, sRetN, aS, sCk, hlt]
        | cons b l ih =>
          intro i hd hl K hK
          obtain ⟨K, rfl⟩ : ∃ q, K = q + 1 := ⟨K - 1, by omega⟩
          have hil : i < len := by simp only [List.length_cons] at hl; omega
          have hbi : (wByt.getD k []).getD i 0 = b := by
            have : bs[i]? = some b := by
              have h9 := congrArg (fun z => z[0]?) hd
              simpa using h9
            rw [hbs, List.getD_eq_getElem?_getD, this]
            rfl
          have hbm : b ∈ bs := by
            have : b ∈ bs.drop i := by rw [hd]; exact List.mem_cons_self
            exact List.mem_of_mem_drop this
          have hlt : nI i < Int32.ofNat len := nI_lt hil (by omega)
          have hcl : (nI i).toNatClampNeg = i := nI_clamp (by omega)
          have hwi : wIn (nI i) len = true := by
            unfold wIn
            rw [hcl]
            simp [nI_pos (show i < 2 ^ 31 by omega), hil]
          by_cases hbc : b = c
          · refine ⟨[.ref (1000 + k + 1000), .int c, .int 0, .int (Int32.ofNat len), .int (oI2b c), .int (nI i)], ?_⟩
            have hx : wIdx c (b :: l) i = nI i := by
              unfold wIdx
              rw [if_pos hbc]
              rfl
            have hne : ¬ nI i = -1 := fun e => nI_pos (show i < 2 ^ 31 by omega) (by rw [e]; decide)
            rw [hx, if_neg hne]
            refine sWh_inr ?_
            have hbo : oI2b c = b := ((hbyte b hbm).mpr hbc).symm
            simp only [wStep, mDen, sSeq, sLoc, sLocR, sLocL, sInc, sPut, sPutZ, sPutO, sAst, sAstO, sAstD, sAstR, sIf, sRet, sRetZ, sRetL, sRetV, sBrk, sCon, sCall, sDrop, sCopy, sSkip, sSw, wSwF, eI, eLoc, eLocR, eLocL, eFld, eFldR, eArr, eArrR, eLen, eB, eD, eU, eIf, eIfL, eBo, eCall, eCallL, aN, aI, aR, aO, eStr, eSLen, eSAt, eSIdx, eLI, eI2L, eLB, cI, cZ, cL, cAnd, cOr, cNot, cIf, Option.bind_some, Option.bind_none, List.getElem?_cons_zero, List.getElem?_cons_succ, List.set_cons_zero, List.set_cons_succ, List.length_cons, List.length_nil, List.all_cons, List.all_nil, wIR, List.cons_append, List.nil_append, List.append_nil, List.reduceReplicate, Bool.and_true, Bool.true_and, Bool.and_self, and_true, true_and, and_self, if_true, if_false, reduceCtorEq, Nat.reduceAdd, Nat.reduceSub, Nat.reduceLeDiff, Nat.zero_add, Nat.le_refl, Nat.sub_self, List.replicate_zero, List.replicate_succ, wcmp, decide_eq_true_eq, Bool.false_eq_true, Bool.not_true, Bool.not_false, Bool.not_eq_true, Nat.reduceEqDiff, Nat.succ_ne_zero, Nat.one_ne_zero, Nat.zero_ne_one, not_true_eq_false, not_false_eq_true, decide_true, decide_false, ↓reduceIte, eCs, eSVal, eSCo, eBLen, eBAt, sRetN, aS, sCk, hlt, h2a, h2b, h3, hL, hwi, hcl, hbi, hbo]
          · have hx : wIdx c (b :: l) i = wIdx c l (i + 1) := by
              rw [wIdx, if_neg hbc]
            have hbo : ¬ b = oI2b c := fun e => hbc ((hbyte b hbm).mp e)
            obtain ⟨ls2, hih⟩ := ih (i + 1) (by rw [← List.drop_drop, hd]; rfl) (by simp only [List.length_cons] at hl; omega) K (by simp only [List.length_cons] at hK; omega)
            refine ⟨ls2, ?_⟩
            rw [hx, ← hih]
            refine sWh_inl ?_
            have hsucc : nI i + Int32.ofInt 1 = nI (i + 1) := (nI_succ i).symm
            simp only [wStep, mDen, sSeq, sLoc, sLocR, sLocL, sInc, sPut, sPutZ, sPutO, sAst, sAstO, sAstD, sAstR, sIf, sRet, sRetZ, sRetL, sRetV, sBrk, sCon, sCall, sDrop, sCopy, sSkip, sSw, wSwF, eI, eLoc, eLocR, eLocL, eFld, eFldR, eArr, eArrR, eLen, eB, eD, eU, eIf, eIfL, eBo, eCall, eCallL, aN, aI, aR, aO, eStr, eSLen, eSAt, eSIdx, eLI, eI2L, eLB, cI, cZ, cL, cAnd, cOr, cNot, cIf, Option.bind_some, Option.bind_none, List.getElem?_cons_zero, List.getElem?_cons_succ, List.set_cons_zero, List.set_cons_succ, List.length_cons, List.length_nil, List.all_cons, List.all_nil, wIR, List.cons_append, List.nil_append, List.append_nil, List.reduceReplicate, Bool.and_true, Bool.true_and, Bool.and_self, and_true, true_and, and_self, if_true, if_false, reduceCtorEq, Nat.reduceAdd, Nat.reduceSub, Nat.reduceLeDiff, Nat.zero_add, Nat.le_refl, Nat.sub_self, List.replicate_zero, List.replicate_succ, wcmp, decide_eq_true_eq, Bool.false_eq_true, Bool.not_true, Bool.not_false, Bool.not_eq_true, Nat.reduceEqDiff, Nat.succ_ne_zero, Nat.one_ne_zero, Nat.zero_ne_one, not_true_eq_false, not_false_eq_true, decide_true, decide_false, ↓reduceIte, eCs, eSVal, eSCo, eBLen, eBAt, sRetN, aS, sCk, hlt, h2a, h2b, h3, hL, hwi, hcl, hbi, hbo, hsucc]
      have hixc : nS_ixc K sh [.ref (1000 + k + 1000), .int c, .int 0, .int (Int32.ofNat len)] t = some (some (.int (wIdx c bs 0)), t) := by
        obtain ⟨ls2, hl2⟩ := loop bs 0 rfl (by omega) K (by omega)
        have h00 : nI 0 = 0 := nI_0
        rw [h00] at hl2
        by_cases hx : wIdx c bs 0 = -1
        · rw [if_pos hx] at hl2
          simp only [nS_ixc, bS_ixc, mDen, sSeq, sLoc, sLocR, sLocL, sInc, sPut, sPutZ, sPutO, sAst, sAstO, sAstD, sAstR, sIf, sRet, sRetZ, sRetL, sRetV, sBrk, sCon, sCall, sDrop, sCopy, sSkip, sSw, wSwF, eI, eLoc, eLocR, eLocL, eFld, eFldR, eArr, eArrR, eLen, eB, eD, eU, eIf, eIfL, eBo, eCall, eCallL, aN, aI, aR, aO, eStr, eSLen, eSAt, eSIdx, eLI, eI2L, eLB, cI, cZ, cL, cAnd, cOr, cNot, cIf, Option.bind_some, Option.bind_none, List.getElem?_cons_zero, List.getElem?_cons_succ, List.set_cons_zero, List.set_cons_succ, List.length_cons, List.length_nil, List.all_cons, List.all_nil, wIR, List.cons_append, List.nil_append, List.append_nil, List.reduceReplicate, Bool.and_true, Bool.true_and, Bool.and_self, and_true, true_and, and_self, if_true, if_false, reduceCtorEq, Nat.reduceAdd, Nat.reduceSub, Nat.reduceLeDiff, Nat.zero_add, Nat.le_refl, Nat.sub_self, List.replicate_zero, List.replicate_succ, wcmp, decide_eq_true_eq, Bool.false_eq_true, Bool.not_true, Bool.not_false, Bool.not_eq_true, Nat.reduceEqDiff, Nat.succ_ne_zero, Nat.one_ne_zero, Nat.zero_ne_one, not_true_eq_false, not_false_eq_true, decide_true, decide_false, ↓reduceIte, eCs, eSVal, eSCo, eBLen, eBAt, sRetN, aS, sCk, hl2, hx]
        · rw [if_neg hx] at hl2
          simp only [nS_ixc, bS_ixc, mDen, sSeq, sLoc, sLocR, sLocL, sInc, sPut, sPutZ, sPutO, sAst, sAstO, sAstD, sAstR, sIf, sRet, sRetZ, sRetL, sRetV, sBrk, sCon, sCall, sDrop, sCopy, sSkip, sSw, wSwF, eI, eLoc, eLocR, eLocL, eFld, eFldR, eArr, eArrR, eLen, eB, eD, eU, eIf, eIfL, eBo, eCall, eCallL, aN, aI, aR, aO, eStr, eSLen, eSAt, eSIdx, eLI, eI2L, eLB, cI, cZ, cL, cAnd, cOr, cNot, cIf, Option.bind_some, Option.bind_none, List.getElem?_cons_zero, List.getElem?_cons_succ, List.set_cons_zero, List.set_cons_succ, List.length_cons, List.length_nil, List.all_cons, List.all_nil, wIR, List.cons_append, List.nil_append, List.append_nil, List.reduceReplicate, Bool.and_true, Bool.true_and, Bool.and_self, and_true, true_and, and_self, if_true, if_false, reduceCtorEq, Nat.reduceAdd, Nat.reduceSub, Nat.reduceLeDiff, Nat.zero_add, Nat.le_refl, Nat.sub_self, List.replicate_zero, List.replicate_succ, wcmp, decide_eq_true_eq, Bool.false_eq_true, Bool.not_true, Bool.not_false, Bool.not_eq_true, Nat.reduceEqDiff, Nat.succ_ne_zero, Nat.one_ne_zero, Nat.zero_ne_one, not_true_eq_false, not_false_eq_true, decide_true, decide_false, ↓reduceIte, eCs, eSVal, eSCo, eBLen, eBAt, sRetN, aS, sCk, hl2]
      have hmin : oMin (Int32.ofNat len) (Int32.ofNat len) = Int32.ofNat len := by unfold oMin; split <;> rfl
      have hmax : oMax 0 0 = 0 := by decide
      by_cases hz : Int32.ofNat len ≤ 0
      · have hl0 : len = 0 := by
          rcases Nat.eq_zero_or_pos len with h | h
          · exact h
          · exact absurd hz (nI_nle h (by omega))
        have hnil : bs = [] := List.eq_nil_of_length_eq_zero (by omega)
        rw [hnil]
        simp only [nS_lix, bS_lix, mDen, sSeq, sLoc, sLocR, sLocL, sInc, sPut, sPutZ, sPutO, sAst, sAstO, sAstD, sAstR, sIf, sRet, sRetZ, sRetL, sRetV, sBrk, sCon, sCall, sDrop, sCopy, sSkip, sSw, wSwF, eI, eLoc, eLocR, eLocL, eFld, eFldR, eArr, eArrR, eLen, eB, eD, eU, eIf, eIfL, eBo, eCall, eCallL, aN, aI, aR, aO, eStr, eSLen, eSAt, eSIdx, eLI, eI2L, eLB, cI, cZ, cL, cAnd, cOr, cNot, cIf, Option.bind_some, Option.bind_none, List.getElem?_cons_zero, List.getElem?_cons_succ, List.set_cons_zero, List.set_cons_succ, List.length_cons, List.length_nil, List.all_cons, List.all_nil, wIR, List.cons_append, List.nil_append, List.append_nil, List.reduceReplicate, Bool.and_true, Bool.true_and, Bool.and_self, and_true, true_and, and_self, if_true, if_false, reduceCtorEq, Nat.reduceAdd, Nat.reduceSub, Nat.reduceLeDiff, Nat.zero_add, Nat.le_refl, Nat.sub_self, List.replicate_zero, List.replicate_succ, wcmp, decide_eq_true_eq, Bool.false_eq_true, Bool.not_true, Bool.not_false, Bool.not_eq_true, Nat.reduceEqDiff, Nat.succ_ne_zero, Nat.one_ne_zero, Nat.zero_ne_one, not_true_eq_false, not_false_eq_true, decide_true, decide_false, ↓reduceIte, eCs, eSVal, eSCo, eBLen, eBAt, sRetN, aS, sCk, hcan, h10, h2, h3, hL, hmin, hmax, hz, wIdx]
      · simp only [nS_lix, bS_lix, mDen, sSeq, sLoc, sLocR, sLocL, sInc, sPut, sPutZ, sPutO, sAst, sAstO, sAstD, sAstR, sIf, sRet, sRetZ, sRetL, sRetV, sBrk, sCon, sCall, sDrop, sCopy, sSkip, sSw, wSwF, eI, eLoc, eLocR, eLocL, eFld, eFldR, eArr, eArrR, eLen, eB, eD, eU, eIf, eIfL, eBo, eCall, eCallL, aN, aI, aR, aO, eStr, eSLen, eSAt, eSIdx, eLI, eI2L, eLB, cI, cZ, cL, cAnd, cOr, cNot, cIf, Option.bind_some, Option.bind_none, List.getElem?_cons_zero, List.getElem?_cons_succ, List.set_cons_zero, List.set_cons_succ, List.length_cons, List.length_nil, List.all_cons, List.all_nil, wIR, List.cons_append, List.nil_append, List.append_nil, List.reduceReplicate, Bool.and_true, Bool.true_and, Bool.and_self, and_true, true_and, and_self, if_true, if_false, reduceCtorEq, Nat.reduceAdd, Nat.reduceSub, Nat.reduceLeDiff, Nat.zero_add, Nat.le_refl, Nat.sub_self, List.replicate_zero, List.replicate_succ, wcmp, decide_eq_true_eq, Bool.false_eq_true, Bool.not_true, Bool.not_false, Bool.not_eq_true, Nat.reduceEqDiff, Nat.succ_ne_zero, Nat.one_ne_zero, Nat.zero_ne_one, not_true_eq_false, not_false_eq_true, decide_true, decide_false, ↓reduceIte, eCs, eSVal, eSCo, eBLen, eBAt, sRetN, aS, sCk, hcan, h10, h2, h3, hL, hmin, hmax, hz, hixc]
    · have hcan : nS_can sh [.int c] t = some (some (.int 0), t) := by
        rw [Decidable.not_and_iff_or_not] at hc
        rcases hc with hc | hc
        · simp only [nS_can, mDen, sSeq, sLoc, sLocR, sLocL, sInc, sPut, sPutZ, sPutO, sAst, sAstO, sAstD, sAstR, sIf, sRet, sRetZ, sRetL, sRetV, sBrk, sCon, sCall, sDrop, sCopy, sSkip, sSw, wSwF, eI, eLoc, eLocR, eLocL, eFld, eFldR, eArr, eArrR, eLen, eB, eD, eU, eIf, eIfL, eBo, eCall, eCallL, aN, aI, aR, aO, eStr, eSLen, eSAt, eSIdx, eLI, eI2L, eLB, cI, cZ, cL, cAnd, cOr, cNot, cIf, Option.bind_some, Option.bind_none, List.getElem?_cons_zero, List.getElem?_cons_succ, List.set_cons_zero, List.set_cons_succ, List.length_cons, List.length_nil, List.all_cons, List.all_nil, wIR, List.cons_append, List.nil_append, List.append_nil, List.reduceReplicate, Bool.and_true, Bool.true_and, Bool.and_self, and_true, true_and, and_self, if_true, if_false, reduceCtorEq, Nat.reduceAdd, Nat.reduceSub, Nat.reduceLeDiff, Nat.zero_add, Nat.le_refl, Nat.sub_self, List.replicate_zero, List.replicate_succ, wcmp, decide_eq_true_eq, Bool.false_eq_true, Bool.not_true, Bool.not_false, Bool.not_eq_true, Nat.reduceEqDiff, Nat.succ_ne_zero, Nat.one_ne_zero, Nat.zero_ne_one, not_true_eq_false, not_false_eq_true, decide_true, decide_false, ↓reduceIte, eCs, eSVal, eSCo, eBLen, eBAt, sRetN, aS, sCk, hc, or_true, true_or]
        · by_cases h0 : 0 ≤ c <;> simp only [nS_can, mDen, sSeq, sLoc, sLocR, sLocL, sInc, sPut, sPutZ, sPutO, sAst, sAstO, sAstD, sAstR, sIf, sRet, sRetZ, sRetL, sRetV, sBrk, sCon, sCall, sDrop, sCopy, sSkip, sSw, wSwF, eI, eLoc, eLocR, eLocL, eFld, eFldR, eArr, eArrR, eLen, eB, eD, eU, eIf, eIfL, eBo, eCall, eCallL, aN, aI, aR, aO, eStr, eSLen, eSAt, eSIdx, eLI, eI2L, eLB, cI, cZ, cL, cAnd, cOr, cNot, cIf, Option.bind_some, Option.bind_none, List.getElem?_cons_zero, List.getElem?_cons_succ, List.set_cons_zero, List.set_cons_succ, List.length_cons, List.length_nil, List.all_cons, List.all_nil, wIR, List.cons_append, List.nil_append, List.append_nil, List.reduceReplicate, Bool.and_true, Bool.true_and, Bool.and_self, and_true, true_and, and_self, if_true, if_false, reduceCtorEq, Nat.reduceAdd, Nat.reduceSub, Nat.reduceLeDiff, Nat.zero_add, Nat.le_refl, Nat.sub_self, List.replicate_zero, List.replicate_succ, wcmp, decide_eq_true_eq, Bool.false_eq_true, Bool.not_true, Bool.not_false, Bool.not_eq_true, Nat.reduceEqDiff, Nat.succ_ne_zero, Nat.one_ne_zero, Nat.zero_ne_one, not_true_eq_false, not_false_eq_true, decide_true, decide_false, ↓reduceIte, eCs, eSVal, eSCo, eBLen, eBAt, sRetN, aS, sCk, hc, h0, or_true, true_or]
      have hx : wIdx c bs 0 = -1 := wIdx_none _ _ fun b hb e => by
        obtain ⟨m, hm, rfl⟩ := hmem b hb
        refine hc ⟨by rw [← e]; exact nI_pos' (by omega), ?_⟩
        rw [← e]
        show nI m ≤ nI 255
        exact nI_le (by omega) (by decide)
      simp only [nS_lix, bS_lix, mDen, sSeq, sLoc, sLocR, sLocL, sInc, sPut, sPutZ, sPutO, sAst, sAstO, sAstD, sAstR, sIf, sRet, sRetZ, sRetL, sRetV, sBrk, sCon, sCall, sDrop, sCopy, sSkip, sSw, wSwF, eI, eLoc, eLocR, eLocL, eFld, eFldR, eArr, eArrR, eLen, eB, eD, eU, eIf, eIfL, eBo, eCall, eCallL, aN, aI, aR, aO, eStr, eSLen, eSAt, eSIdx, eLI, eI2L, eLB, cI, cZ, cL, cAnd, cOr, cNot, cIf, Option.bind_some, Option.bind_none, List.getElem?_cons_zero, List.getElem?_cons_succ, List.set_cons_zero, List.set_cons_succ, List.length_cons, List.length_nil, List.all_cons, List.all_nil, wIR, List.cons_append, List.nil_append, List.append_nil, List.reduceReplicate, Bool.and_true, Bool.true_and, Bool.and_self, and_true, true_and, and_self, if_true, if_false, reduceCtorEq, Nat.reduceAdd, Nat.reduceSub, Nat.reduceLeDiff, Nat.zero_add, Nat.le_refl, Nat.sub_self, List.replicate_zero, List.replicate_succ, wcmp, decide_eq_true_eq, Bool.false_eq_true, Bool.not_true, Bool.not_false, Bool.not_eq_true, Nat.reduceEqDiff, Nat.succ_ne_zero, Nat.one_ne_zero, Nat.zero_ne_one, not_true_eq_false, not_false_eq_true, decide_true, decide_false, ↓reduceIte, eCs, eSVal, eSCo, eBLen, eBAt, sRetN, aS, sCk, hcan, hx]
  have key2 : nS_ix2 K sh [.ref (1000 + k), .int c, .int 0] t = some (some (.int (wIdx c bs 0)), t) := by
    simp only [nS_ix2, bS_ix2, mDen, sSeq, sLoc, sLocR, sLocL, sInc, sPut, sPutZ, sPutO, sAst, sAstO, sAstD, sAstR, sIf, sRet, sRetZ, sRetL, sRetV, sBrk, sCon, sCall, sDrop, sCopy, sSkip, sSw, wSwF, eI, eLoc, eLocR, eLocL, eFld, eFldR, eArr, eArrR, eLen, eB, eD, eU, eIf, eIfL, eBo, eCall, eCallL, aN, aI, aR, aO, eStr, eSLen, eSAt, eSIdx, eLI, eI2L, eLB, cI, cZ, cL, cAnd, cOr, cNot, cIf, Option.bind_some, Option.bind_none, List.getElem?_cons_zero, List.getElem?_cons_succ, List.set_cons_zero, List.set_cons_succ, List.length_cons, List.length_nil, List.all_cons, List.all_nil, wIR, List.cons_append, List.nil_append, List.append_nil, List.reduceReplicate, Bool.and_true, Bool.true_and, Bool.and_self, and_true, true_and, and_self, if_true, if_false, reduceCtorEq, Nat.reduceAdd, Nat.reduceSub, Nat.reduceLeDiff, Nat.zero_add, Nat.le_refl, Nat.sub_self, List.replicate_zero, List.replicate_succ, wcmp, decide_eq_true_eq, Bool.false_eq_true, Bool.not_true, Bool.not_false, Bool.not_eq_true, Nat.reduceEqDiff, Nat.succ_ne_zero, Nat.one_ne_zero, Nat.zero_ne_one, not_true_eq_false, not_false_eq_true, decide_true, decide_false, ↓reduceIte, eCs, eSVal, eSCo, eBLen, eBAt, sRetN, aS, sCk, hlat, h10, h1, hlen, key]
  simp only [nS_ix1, bS_ix1, mDen, sSeq, sLoc, sLocR, sLocL, sInc, sPut, sPutZ, sPutO, sAst, sAstO, sAstD, sAstR, sIf, sRet, sRetZ, sRetL, sRetV, sBrk, sCon, sCall, sDrop, sCopy, sSkip, sSw, wSwF, eI, eLoc, eLocR, eLocL, eFld, eFldR, eArr, eArrR, eLen, eB, eD, eU, eIf, eIfL, eBo, eCall, eCallL, aN, aI, aR, aO, eStr, eSLen, eSAt, eSIdx, eLI, eI2L, eLB, cI, cZ, cL, cAnd, cOr, cNot, cIf, Option.bind_some, Option.bind_none, List.getElem?_cons_zero, List.getElem?_cons_succ, List.set_cons_zero, List.set_cons_succ, List.length_cons, List.length_nil, List.all_cons, List.all_nil, wIR, List.cons_append, List.nil_append, List.append_nil, List.reduceReplicate, Bool.and_true, Bool.true_and, Bool.and_self, and_true, true_and, and_self, if_true, if_false, reduceCtorEq, Nat.reduceAdd, Nat.reduceSub, Nat.reduceLeDiff, Nat.zero_add, Nat.le_refl, Nat.sub_self, List.replicate_zero, List.replicate_succ, wcmp, decide_eq_true_eq, Bool.false_eq_true, Bool.not_true, Bool.not_false, Bool.not_eq_true, Nat.reduceEqDiff, Nat.succ_ne_zero, Nat.one_ne_zero, Nat.zero_ne_one, not_true_eq_false, not_false_eq_true, decide_true, decide_false, ↓reduceIte, eCs, eSVal, eSCo, eBLen, eBAt, sRetN, aS, sCk, h1, key2]
section STR2
variable {own : String} {cc : ByteArray} {nL : Nat} {ret : Option FieldType} {d : Nat} {X : wX} {w pc p1 p2 p3 p4 p5 pT pF pE pB pC pM : Nat}
set_option maxRecDepth 20000 in
theorem cSLen (hX : CX own cc nL ret d X) {a : wER} {i : Nat} (ha : CmpR nL X w pc p1 a) (hw8 : w ≤ 8) (hd5 : 6 ≤ d) (hl : Jvm.Cond.methodLink own i yJ0_length_8abf5 ∈ w_ws) (hd : decode cc p1 = .ok (.invokevirtual i, 3)) : CmpE nL X w pc (p1 + 3) (eSLen a) := by
  intro ls stk t x t1 he
  obtain ⟨⟨v, t2⟩, h1, he⟩ := ob_some he
  dsimp only at he
  by_cases hc : 1000 ≤ v ∧ v < 1023
  · rw [if_pos hc] at he
    cases he
    refine cCallVS hX mS_len hl wd_802 wd_803 wd_804 wd_130 (n := 0) ⟨by decide +kernel, by decide +kernel, by decide +kernel⟩ (by omega) (by decide) hw8 (cAS ha cAN) hd ls stk t _ _ ?_
    obtain ⟨k, rfl⟩ : ∃ k, v = 1000 + k := ⟨v - 1000, by omega⟩
    rw [Nat.add_sub_cancel_left]
    have hk := eSLen_den (k := k) (by omega) (gsh (xG X)) t1
    simp only [mDen, sSeq, sLoc, sLocR, sLocL, sInc, sPut, sPutZ, sPutO, sAst, sAstO, sAstD, sAstR, sIf, sRet, sRetZ, sRetL, sRetV, sBrk, sCon, sCall, sDrop, sCopy, sSkip, sSw, wSwF, eI, eLoc, eLocR, eLocL, eFld, eFldR, eArr, eArrR, eLen, eB, eD, eU, eIf, eIfL, eBo, eCall, eCallL, aN, aI, aR, aO, eStr, eSLen, eSAt, eSIdx, eLI, eI2L, eLB, cI, cZ, cL, cAnd, cOr, cNot, cIf, Option.bind_some, Option.bind_none, List.getElem?_cons_zero, List.getElem?_cons_succ, List.set_cons_zero, List.set_cons_succ, List.length_cons, List.length_nil, List.all_cons, List.all_nil, wIR, List.cons_append, List.nil_append, List.append_nil, List.reduceReplicate, Bool.and_true, Bool.true_and, Bool.and_self, and_true, true_and, and_self, if_true, if_false, reduceCtorEq, Nat.reduceAdd, Nat.reduceSub, Nat.reduceLeDiff, Nat.zero_add, Nat.le_refl, Nat.sub_self, List.replicate_zero, List.replicate_succ, wcmp, decide_eq_true_eq, Bool.false_eq_true, Bool.not_true, Bool.not_false, Bool.not_eq_true, Nat.reduceEqDiff, Nat.succ_ne_zero, Nat.one_ne_zero, Nat.zero_ne_one, not_true_eq_false, not_false_eq_true, decide_true, decide_false, ↓reduceIte, eCs, eSVal, eSCo, eBLen, eBAt, sRetN, aS, sCk, h1, hc, hk]
  · rw [if_neg hc] at he
    cases he
set_option maxRecDepth 20000 in
theorem cSAt (hX : CX own cc nL ret d X) {a : wER} {e : wEI} {i : Nat} (ha : CmpR nL X w pc p1 a) (he : CmpE nL X (w + 1) p1 p2 e) (hw8 : w ≤ 8) (hd5 : 6 ≤ d) (hl : Jvm.Cond.methodLink own i yJ0_charAt_5068e ∈ w_ws) (hd : decode cc p2 = .ok (.invokevirtual i, 3)) : CmpE nL X w pc (p2 + 3) (eSAt a e) := by
  intro ls stk t x t1 hh
  obtain ⟨⟨v, t2⟩, h1, hh⟩ := ob_some hh
  obtain ⟨⟨j, t3⟩, h2, hh⟩ := ob_some hh
  dsimp only at hh h2
  by_cases hc : 1000 ≤ v ∧ v < 1023 ∧ wIn j (wLen.getD (v - 1000) 0) = true
  · rw [if_pos hc] at hh
    cases hh
    refine cCallVS hX mS_chr hl wd_876 wd_877 wd_878 wd_130 (n := 1) ⟨by decide +kernel, by decide +kernel, by decide +kernel⟩ (by omega) (by decide) hw8 (cAS ha (cAI he cAN)) hd ls stk t _ _ ?_
    obtain ⟨k, rfl⟩ : ∃ k, v = 1000 + k := ⟨v - 1000, by omega⟩
    rw [Nat.add_sub_cancel_left] at hc ⊢
    have hk := eSAt_den (k := k) (by omega) hc.2.2 (gsh (xG X)) t1
    simp only [mDen, sSeq, sLoc, sLocR, sLocL, sInc, sPut, sPutZ, sPutO, sAst, sAstO, sAstD, sAstR, sIf, sRet, sRetZ, sRetL, sRetV, sBrk, sCon, sCall, sDrop, sCopy, sSkip, sSw, wSwF, eI, eLoc, eLocR, eLocL, eFld, eFldR, eArr, eArrR, eLen, eB, eD, eU, eIf, eIfL, eBo, eCall, eCallL, aN, aI, aR, aO, eStr, eSLen, eSAt, eSIdx, eLI, eI2L, eLB, cI, cZ, cL, cAnd, cOr, cNot, cIf, Option.bind_some, Option.bind_none, List.getElem?_cons_zero, List.getElem?_cons_succ, List.set_cons_zero, List.set_cons_succ, List.length_cons, List.length_nil, List.all_cons, List.all_nil, wIR, List.cons_append, List.nil_append, List.append_nil, List.reduceReplicate, Bool.and_true, Bool.true_and, Bool.and_self, and_true, true_and, and_self, if_true, if_false, reduceCtorEq, Nat.reduceAdd, Nat.reduceSub, Nat.reduceLeDiff, Nat.zero_add, Nat.le_refl, Nat.sub_self, List.replicate_zero, List.replicate_succ, wcmp, decide_eq_true_eq, Bool.false_eq_true, Bool.not_true, Bool.not_false, Bool.not_eq_true, Nat.reduceEqDiff, Nat.succ_ne_zero, Nat.one_ne_zero, Nat.zero_ne_one, not_true_eq_false, not_false_eq_true, decide_true, decide_false, ↓reduceIte, eCs, eSVal, eSCo, eBLen, eBAt, sRetN, aS, sCk, h1, h2, hc.1, hc.2.1, hk]
  · rw [if_neg hc] at hh
    cases hh
set_option maxRecDepth 20000 in
theorem cSIdx (hX : CX own cc nL ret d X) {a : wER} {e : wEI} {i : Nat} (ha : CmpR nL X w pc p1 a) (he : CmpE nL X (w + 1) p1 p2 e) (hw8 : w ≤ 8) (hd5 : 6 ≤ d) (hl : Jvm.Cond.methodLink own i yJ0_indexOf_0f7a4 ∈ w_ws) (hd : decode cc p2 = .ok (.invokevirtual i, 3)) : CmpE nL X w pc (p2 + 3) (eSIdx a e) := by
  intro ls stk t x t1 hh
  obtain ⟨⟨v, t2⟩, h1, hh⟩ := ob_some hh
  obtain ⟨⟨j, t3⟩, h2, hh⟩ := ob_some hh
  dsimp only at hh h2
  by_cases hc : 1000 ≤ v ∧ v < 1023
  · rw [if_pos hc] at hh
    cases hh
    refine cCallVS hX (mS_ix1 300) hl wd_788 wd_789 wd_790 wd_130 (n := 1) ⟨by decide +kernel, by decide +kernel, by decide +kernel⟩ (by omega) (by decide) hw8 (cAS ha (cAI he cAN)) hd ls stk t _ _ ?_
    obtain ⟨k, rfl⟩ : ∃ k, v = 1000 + k := ⟨v - 1000, by omega⟩
    rw [Nat.add_sub_cancel_left]
    have hk := eSIdx_den (k := k) (by omega) j (gsh (xG X)) t1 (K := 300) (by omega)
    simp only [mDen, sSeq, sLoc, sLocR, sLocL, sInc, sPut, sPutZ, sPutO, sAst, sAstO, sAstD, sAstR, sIf, sRet, sRetZ, sRetL, sRetV, sBrk, sCon, sCall, sDrop, sCopy, sSkip, sSw, wSwF, eI, eLoc, eLocR, eLocL, eFld, eFldR, eArr, eArrR, eLen, eB, eD, eU, eIf, eIfL, eBo, eCall, eCallL, aN, aI, aR, aO, eStr, eSLen, eSAt, eSIdx, eLI, eI2L, eLB, cI, cZ, cL, cAnd, cOr, cNot, cIf, Option.bind_some, Option.bind_none, List.getElem?_cons_zero, List.getElem?_cons_succ, List.set_cons_zero, List.set_cons_succ, List.length_cons, List.length_nil, List.all_cons, List.all_nil, wIR, List.cons_append, List.nil_append, List.append_nil, List.reduceReplicate, Bool.and_true, Bool.true_and, Bool.and_self, and_true, true_and, and_self, if_true, if_false, reduceCtorEq, Nat.reduceAdd, Nat.reduceSub, Nat.reduceLeDiff, Nat.zero_add, Nat.le_refl, Nat.sub_self, List.replicate_zero, List.replicate_succ, wcmp, decide_eq_true_eq, Bool.false_eq_true, Bool.not_true, Bool.not_false, Bool.not_eq_true, Nat.reduceEqDiff, Nat.succ_ne_zero, Nat.one_ne_zero, Nat.zero_ne_one, not_true_eq_false, not_false_eq_true, decide_true, decide_false, ↓reduceIte, eCs, eSVal, eSCo, eBLen, eBAt, sRetN, aS, sCk, h1, h2, hc.1, hc.2, hk]
  · rw [if_neg hc] at hh
    cases hh
end STR2
