/-! THE CLASS: the law as it is kept -/
theorem lw_lo (Ls : List wLn) (L : List (Nat × Nat)) (v : Nat → Nat) (s : wSg) (h16 : Ls.length ≤ 16) {k : Nat} (hk : k < 1554) (h : k ≠ 212) : lawW Ls L v s k = s k := by
  unfold lawW lineW
  simp (disch := omega) only [copW, su, if_neg, if_pos]
theorem lw_212 (Ls : List wLn) (L : List (Nat × Nat)) (v : Nat → Nat) (s : wSg) (h16 : Ls.length ≤ 16) : lawW Ls L v s 212 = Ls.length := by
  unfold lawW lineW
  simp (disch := omega) only [copW, su, if_neg, if_pos, if_true]
theorem lw_line (Ls : List wLn) (L : List (Nat × Nat)) (v : Nat → Nat) (s : wSg) (h16 : Ls.length ≤ 16) {i : Nat} (hi : i < Ls.length) : lawW Ls L v s (1554 + i) = (Ls.getD i (0, 0, 0, 0)).1 ∧ lawW Ls L v s (1570 + i) = (Ls.getD i (0, 0, 0, 0)).2.1 ∧ lawW Ls L v s (1586 + i) = (Ls.getD i (0, 0, 0, 0)).2.2.1 ∧ lawW Ls L v s (1602 + i) = (Ls.getD i (0, 0, 0, 0)).2.2.2 := by
  unfold lawW lineW
  refine ⟨?_, ?_, ?_, ?_⟩
  · simp (disch := omega) only [copW, su, if_neg, if_pos]
    rw [show 1554 + i - 1554 = i by omega]
  · simp (disch := omega) only [copW, su, if_neg, if_pos]
    rw [show 1570 + i - 1570 = i by omega]
  · simp (disch := omega) only [copW, su, if_neg, if_pos]
    rw [show 1586 + i - 1586 = i by omega]
  · simp (disch := omega) only [copW, su, if_neg, if_pos]
    rw [show 1602 + i - 1602 = i by omega]
theorem lw_step (Ls : List wLn) (L : List (Nat × Nat)) (v : Nat → Nat) (s : wSg) {k : Nat} (hk : k < L.length) : lawW Ls L v s (1620 + 2 * k) = (L.getD k (0, 0)).1 ∧ lawW Ls L v s (1620 + 2 * k + 1) = v k := by
  unfold lawW stepW
  refine ⟨?_, ?_⟩
  · simp (disch := omega) only [copW, if_pos]
    rw [show (1620 + 2 * k - 1620) / 2 = k by omega]
  · simp (disch := omega) only [copW, if_pos, if_neg]
    rw [show (1620 + 2 * k + 1 - 1620) / 2 = k by omega]
theorem drop_getD {L : List (Nat × Nat)} {a : Nat} (h : a < L.length) : L.drop a = L.getD a (0, 0) :: L.drop (a + 1) := by
  rw [List.drop_eq_getElem_cons h, List.getD_eq_getElem?_getD, List.getElem?_eq_getElem h]
  rfl
theorem seg_codes (Ls : List wLn) {L : List (Nat × Nat)} {v : Nat → Nat} (s : wSg) (hV : VOK L v) : ∀ n a, a + n ≤ L.length → codesM (segM (lawW Ls L v s) a n) = codesM ((L.drop a).take n)
  | 0, a, _ => by simp [segM, codesM]
  | n + 1, a, h => by
    obtain ⟨e1, e2⟩ := lw_step Ls L v s (k := a) (by omega)
    rw [segM, drop_getD (by omega), List.take_succ_cons, e1, e2]
    show codeM _ ++ codesM _ = codeM _ ++ codesM _
    rw [seg_codes Ls s hV n (a + 1) (by omega)]
    have hc : codeM ((L.getD a (0, 0)).1, v a) = codeM (L.getD a (0, 0)) := by
      obtain ⟨v1, v2⟩ := hV a (by omega)
      unfold codeM
      dsimp only
      by_cases q0 : (L.getD a (0, 0)).1 = 0
      · rw [if_pos q0, if_pos q0, v2 (Or.inl q0)]
      · rw [if_neg q0, if_neg q0]
        by_cases q1 : (L.getD a (0, 0)).1 < 23
        · rw [if_pos q1, if_pos q1]
        · rw [if_neg q1, if_neg q1]
          by_cases q2 : (L.getD a (0, 0)).1 = 26
          · rw [if_pos q2, if_pos q2, v2 (Or.inr q2)]
          · rw [if_neg q2, if_neg q2]
    rw [hc]
theorem tystM_v {st x v : Nat} {T T' : List Bool} (hv : v ≤ 9999) (h : st = 0 ∨ st = 26 → v = x) (ht : tystM st x T = some T') : tystM st v T = some T' := by
  by_cases q : st = 26
  · rw [h (Or.inr q)]; exact ht
  · unfold tystM at ht ⊢
    by_cases q1 : st < 23
    · rw [if_pos q1] at ht ⊢
      by_cases q2 : st ≤ 7 ∧ x ≤ 9999 ∧ T.length < 60
      · rw [if_pos q2] at ht
        rw [if_pos ⟨q2.1, hv, q2.2.2⟩]
        exact ht
      · rw [if_neg q2] at ht; cases ht
    · rw [if_neg q1, if_neg q] at ht ⊢
      exact ht
theorem seg_ty (Ls : List wLn) {L : List (Nat × Nat)} {v : Nat → Nat} (s : wSg) (hV : VOK L v) : ∀ n a T T', a + n ≤ L.length → tyM ((L.drop a).take n) T = some T' → tyM (segM (lawW Ls L v s) a n) T = some T'
  | 0, a, T, T', _, ht => by simpa [segM, tyM] using ht
  | n + 1, a, T, T', h, ht => by
    obtain ⟨e1, e2⟩ := lw_step Ls L v s (k := a) (by omega)
    obtain ⟨v1, v2⟩ := hV a (by omega)
    rw [drop_getD (by omega), List.take_succ_cons, tyM_cons] at ht
    rw [segM, tyM_cons, e1, e2]
    dsimp only
    cases hx : tystM (L.getD a (0, 0)).1 (L.getD a (0, 0)).2 T with
    | none => rw [hx] at ht; cases ht
    | some T2 =>
      rw [hx] at ht
      rw [tystM_v v1 v2 hx]
      exact seg_ty Ls s hV n (a + 1) T2 T' (by omega) ht
theorem cpos_lw (Ls : List wLn) {L : List (Nat × Nat)} {v : Nat → Nat} (s : wSg) (hV : VOK L v) {x : Nat} (hx : x ≤ L.length) : cposM (lawW Ls L v s) x = clF L x := by
  unfold cposM clF
  rw [seg_codes Ls s hV x 0 (by omega), List.drop_zero]
/-- the law that was read, kept -/
theorem LwG.kept {Ls : List wLn} {L : List (Nat × Nat)} {m : wMm} (h : LwG Ls L m) (h400 : (codesM L).length ≤ 400) {v : Nat → Nat} (hV : VOK L v) (s : wSg) : LwK 72 (lawW Ls L v s) m := by
  obtain ⟨h16, h0, hC, hL, _⟩ := h
  have hcp := cpos_lw Ls s hV (Nat.le_refl L.length)
  rw [clF_all] at hcp
  refine ⟨by rw [lw_212 Ls L v s h16]; exact h0, L.length, fun i hi => ?_, by rw [hcp]; exact h400, by rw [hcp]; exact hC.1, ?_, fun i hi => ?_⟩
  · rw [lw_212 Ls L v s h16] at hi
    rw [(lw_line Ls L v s h16 hi).2.2.1]
    exact (hL i hi).2.1.2.2
  · rw [seg_codes Ls s hV L.length 0 (by omega), List.drop_zero, List.take_length]
    intro k hk
    rw [Nat.zero_add]
    exact hC.2 k hk
  · rw [lw_212 Ls L v s h16] at hi
    obtain ⟨e1, e2, e3, e4⟩ := lw_line Ls L v s h16 hi
    obtain ⟨⟨c1, c2, c3, c4⟩, ⟨⟨t1, t2, t3⟩, _⟩⟩ := hL i hi
    rw [e1, e2, e3, e4, cpos_lw Ls s hV (by omega), cpos_lw Ls s hV (by omega), cpos_lw Ls s hV t3]
    exact ⟨c1, c2, c3, c4⟩
/-- the law that was read can be told -/
theorem LwG.ok {Ls : List wLn} {L : List (Nat × Nat)} {m : wMm} (h : LwG Ls L m) (hl : L.length ≤ 400) {v : Nat → Nat} (hV : VOK L v) (s : wSg) : lawOK (lawW Ls L v s) := by
  obtain ⟨h16, h0, hC, hL, _⟩ := h
  refine ⟨by rw [lw_212 Ls L v s h16]; exact h16, fun i hi => ?_⟩
  rw [lw_212 Ls L v s h16] at hi
  obtain ⟨e1, e2, e3, e4⟩ := lw_line Ls L v s h16 hi
  obtain ⟨_, ⟨⟨t1, t2, t3⟩, t4, t5, t6⟩⟩ := hL i hi
  rw [e1, e2, e3, e4]
  refine ⟨t1, t2, by omega, t4.2, seg_ty Ls s hV _ _ _ _ (by omega) t5, ?_⟩
  rcases t6 with t6 | t6
  · exact Or.inl t6
  · exact Or.inr (seg_ty Ls s hV _ _ _ _ (by omega) t6)
