/-! ORDER: the best by sets is the first best of all orders -/
def dpM (s : wSg) (F N : Nat) : Nat → Nat → Nat × List Nat
  | 0, _ => (0, [])
  | d + 1, A => (List.range N).foldl (fun b i => if bitM A i = 1 then b else if crossM s F N A i + (dpM s F N d (A ||| 2 ^ i)).1 < b.1 then (crossM s F N A i + (dpM s F N d (A ||| 2 ^ i)).1, i :: (dpM s F N d (A ||| 2 ^ i)).2) else b) (1000000000, [])
def dpS (s : wSg) (F N d A : Nat) (b : Nat × List Nat) (i : Nat) : Nat × List Nat := if bitM A i = 1 then b else if crossM s F N A i + (dpM s F N d (A ||| 2 ^ i)).1 < b.1 then (crossM s F N A i + (dpM s F N d (A ||| 2 ^ i)).1, i :: (dpM s F N d (A ||| 2 ^ i)).2) else b
def dpF (s : wSg) (F N d A n : Nat) : Nat × List Nat := (List.range n).foldl (dpS s F N d A) (1000000000, [])
theorem dpM_s (s : wSg) (F N d A : Nat) : dpM s F N (d + 1) A = dpF s F N d A N := by
  rw [dpM]
  rfl
theorem dpM_0 (s : wSg) (F N A : Nat) : dpM s F N 0 A = (0, []) := by rw [dpM]
theorem dpF_0 (s : wSg) (F N d A : Nat) : dpF s F N d A 0 = (1000000000, []) := rfl
theorem dpF_s (s : wSg) (F N d A n : Nat) : dpF s F N d A (n + 1) = dpS s F N d A (dpF s F N d A n) n := fold_next _ _ _
theorem dpF_in (s : wSg) (F N d A : Nat) : ∀ n, (dpF s F N d A n = (1000000000, []) ∨ ∃ i, i < n ∧ bitM A i = 0 ∧ dpF s F N d A n = (crossM s F N A i + (dpM s F N d (A ||| 2 ^ i)).1, i :: (dpM s F N d (A ||| 2 ^ i)).2)) ∧ (∀ i, i < n → bitM A i = 0 → (dpF s F N d A n).1 ≤ crossM s F N A i + (dpM s F N d (A ||| 2 ^ i)).1) ∧ (dpF s F N d A n).1 ≤ 1000000000
  | 0 => ⟨Or.inl rfl, fun i h => absurd h (Nat.not_lt_zero i), Nat.le_refl _⟩
  | n + 1 => by
    obtain ⟨h1, h2, h3⟩ := dpF_in s F N d A n
    rw [dpF_s]
    generalize dpF s F N d A n = b at *
    unfold dpS
    by_cases q : bitM A n = 1
    · rw [if_pos q]
      refine ⟨h1.imp id (fun ⟨i, a1, a2⟩ => ⟨i, by omega, a2⟩), fun i hi hb => ?_, h3⟩
      by_cases q2 : i = n
      · subst q2; omega
      · exact h2 i (by omega) hb
    · rw [if_neg q]
      have q0 := bit01 q
      generalize hv : crossM s F N A n + (dpM s F N d (A ||| 2 ^ n)).1 = v at *
      by_cases q1 : v < b.1
      · rw [if_pos q1]
        refine ⟨Or.inr ⟨n, by omega, q0, by rw [hv]⟩, fun i hi hb => ?_, by dsimp only; omega⟩
        by_cases q2 : i = n
        · subst q2; rw [hv]; exact Nat.le_refl _
        · have := h2 i (by omega) hb
          dsimp only
          omega
      · rw [if_neg q1]
        refine ⟨h1.imp id (fun ⟨i, a1, a2⟩ => ⟨i, by omega, a2⟩), fun i hi hb => ?_, h3⟩
        by_cases q2 : i = n
        · subst q2; omega
        · exact h2 i (by omega) hb
theorem cntB_sm (a : Nat) : ∀ n, cntB a n = smN (fun k => if bitM a k = 1 then 1 else 0) n
  | 0 => rfl
  | n + 1 => by
    have := bitM_le a n
    rw [cntB, smN, cntB_sm a n]
    by_cases q : bitM a n = 1
    · rw [if_pos q, q]
    · rw [if_neg q, bit01 q]
theorem cntB_or {A i : Nat} (h : bitM A i = 0) (n : Nat) : cntB (A ||| 2 ^ i) n = cntB A n + if i < n then 1 else 0 := by
  rw [cntB_sm, cntB_sm]
  exact sumA_or (fun _ => 1) h n
theorem cntB_free {A : Nat} : ∀ n, cntB A n < n → ∃ i, i < n ∧ bitM A i = 0
  | 0, h => absurd h (Nat.not_lt_zero _)
  | n + 1, h => by
    rw [cntB] at h
    by_cases q : bitM A n = 0
    · exact ⟨n, by omega, q⟩
    · have := bitM_le A n
      obtain ⟨i, h1, h2⟩ := cntB_free n (show cntB A n < n by omega)
      exact ⟨i, by omega, h2⟩
/-- what N songs from F on must be -/
def ordOK (s : wSg) (F N : Nat) : Prop := songsOK s ∧ aftOK s ∧ N ≤ 8 ∧ F + N ≤ s 211
theorem cross_le {s : wSg} {F N : Nat} (h : ordOK s F N) (A : Nat) {i : Nat} (hi : i < N) : crossM s F N A i ≤ 400000 := by
  obtain ⟨h1, h2, h3, h4⟩ := h
  have h14 := h1.1
  have hl := (h1.2.2.1 (F + i) (by omega)).2.2.2.1
  have hs : ∀ a, a < N → smN (fun b => if (bitM A a = 1 ∧ ¬ bitM A b = 1 ∧ ¬ b = i) ∨ (¬ bitM A a = 1 ∧ (bitM A b = 1 ∨ b = i) ∧ ¬ a = b) then s (734 + 14 * (F + a) + (F + b)) else 0) N ≤ 792 := fun a ha => by
    refine Nat.le_trans (smN_le (c := 99) N (fun b hb => ?_)) (by omega)
    have := h2 (14 * (F + a) + (F + b)) (by omega)
    rw [← Nat.add_assoc] at this
    split <;> omega
  have hss := smN_le (c := 792) N hs
  unfold crossM
  exact Nat.le_trans (Nat.mul_le_mul (Nat.le_trans hss (Nat.mul_le_mul_left 792 h3)) hl) (by omega)
theorem dpM_le {s : wSg} {F N : Nat} (h : ordOK s F N) : ∀ (d A : Nat), cntB A N + d = N → (dpM s F N d A).1 ≤ 400000 * d
  | 0, A, _ => by rw [dpM_0]; exact Nat.le_refl _
  | d + 1, A, hc => by
    obtain ⟨i, h1, h2⟩ := cntB_free N (show cntB A N < N by omega)
    have h3 := (dpF_in s F N d A N).2.1 i h1 h2
    have h4 := cross_le h A h1
    have h5 := dpM_le h d (A ||| 2 ^ i) (by rw [cntB_or h2, if_pos h1]; omega)
    rw [dpM_s]
    omega
theorem dpM_head {s : wSg} {F N : Nat} (h : ordOK s F N) {d A : Nat} (hc : cntB A N + (d + 1) = N) : ∃ i, i < N ∧ bitM A i = 0 ∧ dpM s F N (d + 1) A = (crossM s F N A i + (dpM s F N d (A ||| 2 ^ i)).1, i :: (dpM s F N d (A ||| 2 ^ i)).2) := by
  have hl := dpM_le h (d + 1) A hc
  have hN := h.2.2.1
  rw [dpM_s] at hl ⊢
  rcases (dpF_in s F N d A N).1 with q | q
  · rw [q] at hl
    dsimp only at hl
    omega
  · exact q
theorem fold_skip {f : Nat × List Nat → Nat → Nat × List Nat} {b : Nat × List Nat} : ∀ n, (∀ g, g < n → f b g = b) → (List.range n).foldl f b = b
  | 0, _ => rfl
  | n + 1, h => by rw [fold_next, fold_skip n (fun g hg => h g (by omega)), h n (by omega)]
theorem fold_tail {f : Nat × List Nat → Nat → Nat × List Nat} {b : Nat × List Nat} (n : Nat) : ∀ k, (∀ g c, n ≤ g → g < n + k → f c g = c) → (List.range (n + k)).foldl f b = (List.range n).foldl f b
  | 0, _ => rfl
  | k + 1, h => by rw [show n + (k + 1) = (n + k) + 1 by omega, fold_next, h (n + k) _ (by omega) (by omega), fold_tail n k (fun g c h1 h2 => h g c h1 (by omega))]
/-- what is left, and what lies ahead -/
def leftA (F N left A : Nat) : Prop := ∀ g, bitM left g = if F ≤ g ∧ g < F + N ∧ bitM A (g - F) = 0 then 1 else 0
theorem left_zero {a : Nat} (h : ∀ g, bitM a g = 0) : a = 0 := Nat.eq_of_testBit_eq (fun g => by
  rw [bitM_t, Nat.zero_testBit, h g]
  rfl)
theorem leftA.next {F N left A i : Nat} (h : leftA F N left A) (hi : i < N) (hb : bitM A i = 0) : leftA F N (clearM left (F + i)) (A ||| 2 ^ i) := fun g => by
  have e := or_bit A i (g - F)
  rw [clear_bit, h g]
  by_cases q : g = F + i
  · rw [if_pos (show g - F = i by omega)] at e
    rw [if_pos q, if_neg (by omega)]
  · rw [if_neg q]
    by_cases q2 : g - F = i
    · rw [if_neg (show ¬ (F ≤ g ∧ g < F + N ∧ bitM A (g - F) = 0) by omega), if_neg (by omega)]
    · rw [if_neg q2] at e
      rw [e]
theorem dstL.snoc {N i : Nat} {q : List Nat} (h : dstL N q) (hi : i < N) (hb : bitM (preS q q.length) i = 0) : dstL N (q ++ [i]) := by
  have hno : ∀ j, j < q.length → q.getD j 0 ≠ i := fun j hj e => by
    have := (preS_bit q i q.length).mpr ⟨j, hj, e⟩
    omega
  refine ⟨fun j hj => ?_, fun a b ha hb' hab => ?_⟩
  · rw [List.length_append] at hj
    simp only [List.length_cons, List.length_nil] at hj
    by_cases q1 : j = q.length
    · rw [q1, getD_n_r]; exact hi
    · rw [getD_n_l (by omega)]; exact h.1 j (by omega)
  · rw [List.length_append] at ha hb'
    simp only [List.length_cons, List.length_nil] at ha hb'
    by_cases q1 : a = q.length
    · by_cases q2 : b = q.length
      · omega
      · rw [q1, getD_n_r, getD_n_l (by omega)] at hab
        exact absurd hab.symm (hno b (by omega))
    · by_cases q2 : b = q.length
      · rw [q2, getD_n_r, getD_n_l (by omega)] at hab
        exact absurd hab (hno a (by omega))
      · rw [getD_n_l (by omega), getD_n_l (by omega)] at hab
        exact h.2 a b (by omega) (by omega) hab
theorem preS_snoc (q : List Nat) (i : Nat) : ∀ t, t ≤ q.length → preS (q ++ [i]) t = preS q t
  | 0, _ => rfl
  | t + 1, h => by rw [preS, preS, preS_snoc q i t (by omega), getD_n_l (by omega)]
theorem preS_len (q : List Nat) (i : Nat) : preS (q ++ [i]) (q.length + 1) = preS q q.length ||| 2 ^ i := by
  rw [preS, preS_snoc q i _ (Nat.le_refl _), getD_n_r]
theorem acc_snoc (s : wSg) (F N : Nat) (q : List Nat) (i : Nat) : accM s F N (q ++ [i]) (q.length + 1) = accM s F N q q.length + crossM s F N (preS q q.length) i := by
  unfold accM
  rw [smN, preS_snoc q i _ (Nat.le_refl _), getD_n_r]
  congr 1
  exact smN_c q.length (fun j hj => by rw [preS_snoc q i j (by omega), getD_n_l hj])
theorem ordM_dp {s : wSg} {F N : Nat} (h : ordOK s F N) : ∀ (d f : Nat) (q : List Nat) (left : Nat) (b : Nat × List Nat), d < f → q.length + d = N → dstL N q → leftA F N left (preS q q.length) → b.1 ≤ 100000000 → ordM s f (q.map (F + ·)) left b = if accM s F N q q.length + (dpM s F N d (preS q q.length)).1 < b.1 then (accM s F N q q.length + (dpM s F N d (preS q q.length)).1, q.map (F + ·) ++ (dpM s F N d (preS q q.length)).2.map (F + ·)) else b
  | 0, f, q, left, b, hf, hl, hd, hL, hb => by
    obtain ⟨f', rfl⟩ : ∃ f', f = f' + 1 := ⟨f - 1, by omega⟩
    have hz : left = 0 := left_zero (fun g => by
      rw [hL g, if_neg]
      rintro ⟨g1, g2, g3⟩
      have := preS_full hd (by omega) (g - F) (by omega)
      rw [show q.length = N by omega] at g3
      omega)
    rw [hz, ordM_0, dpM_0, Nat.add_zero, List.map_nil, List.append_nil, List.length_map, show q.length = N by omega, ← acc_cost hd (by omega)]
  | d + 1, f, q, left, b, hf, hl, hd, hL, hb => by
    obtain ⟨f', rfl⟩ : ∃ f', f = f' + 1 := ⟨f - 1, by omega⟩
    have hFN := h.2.2.2
    have hcA : cntB (preS q q.length) N = q.length := by
      rw [cntB_sm]
      have := preS_sum hd (fun _ => 1) q.length (Nat.le_refl _)
      unfold sumA at this
      rw [this]
      have : ∀ n, smN (fun _ => 1) n = n := fun n => by
        induction n with
        | zero => rfl
        | succ n ih => rw [smN, ih]
      exact this _
    have hne : left ≠ 0 := fun e => by
      obtain ⟨i, i1, i2⟩ := cntB_free N (show cntB (preS q q.length) N < N by omega)
      have := hL (F + i)
      rw [if_pos ⟨by omega, by omega, by rw [Nat.add_sub_cancel_left]; exact i2⟩, e] at this
      unfold bitM at this
      simp at this
    rw [ordM_s s f' _ hne, dpM_s]
    have hst : ∀ (i : Nat) (b : Nat × List Nat), i < N → b.1 ≤ 100000000 → stepO s f' (q.map (F + ·)) left b (F + i) = if bitM (preS q q.length) i = 1 then b else if accM s F N q q.length + (crossM s F N (preS q q.length) i + (dpM s F N d (preS q q.length ||| 2 ^ i)).1) < b.1 then (accM s F N q q.length + (crossM s F N (preS q q.length) i + (dpM s F N d (preS q q.length ||| 2 ^ i)).1), q.map (F + ·) ++ (i :: (dpM s F N d (preS q q.length ||| 2 ^ i)).2).map (F + ·)) else b := by
      intro i b hi hb
      have hb1 : bitM left (F + i) = 1 ↔ bitM (preS q q.length) i = 0 := by
        rw [hL (F + i), Nat.add_sub_cancel_left]
        by_cases c : bitM (preS q q.length) i = 0
        · rw [if_pos ⟨by omega, by omega, c⟩]; omega
        · rw [if_neg (fun g => c g.2.2)]; omega
      unfold stepO
      by_cases c : bitM (preS q q.length) i = 1
      · rw [if_pos c, if_neg (fun g => by have := hb1.mp g; omega)]
      · have c0 := bit01 c
        have ih := ordM_dp h d f' (q ++ [i]) (clearM left (F + i)) b (by omega) (by rw [List.length_append]; simp only [List.length_cons, List.length_nil]; omega) (hd.snoc hi c0) (by
          rw [List.length_append]
          show leftA F N (clearM left (F + i)) (preS (q ++ [i]) (q.length + 1))
          rw [preS_len]
          exact hL.next hi c0) hb
        rw [List.length_append] at ih
        have ih' : ordM s f' ((q ++ [i]).map (F + ·)) (clearM left (F + i)) b = if accM s F N (q ++ [i]) (q.length + 1) + (dpM s F N d (preS (q ++ [i]) (q.length + 1))).1 < b.1 then (accM s F N (q ++ [i]) (q.length + 1) + (dpM s F N d (preS (q ++ [i]) (q.length + 1))).1, (q ++ [i]).map (F + ·) ++ (dpM s F N d (preS (q ++ [i]) (q.length + 1))).2.map (F + ·)) else b := ih
        rw [preS_len, acc_snoc, List.map_append, List.append_assoc, Nat.add_assoc] at ih'
        rw [if_neg c, if_pos (hb1.mpr c0)]
        exact ih'
    have hle : ∀ (b : Nat × List Nat) (g : Nat), (stepO s f' (q.map (F + ·)) left b g).1 ≤ b.1 := fun b g => by
      unfold stepO
      split
      · exact ordM_le s _ _ _ _
      · exact Nat.le_refl _
    have hmain : ∀ n, n ≤ N → (List.range (F + n)).foldl (stepO s f' (q.map (F + ·)) left) b = if accM s F N q q.length + (dpF s F N d (preS q q.length) n).1 < b.1 then (accM s F N q q.length + (dpF s F N d (preS q q.length) n).1, q.map (F + ·) ++ (dpF s F N d (preS q q.length) n).2.map (F + ·)) else b := by
      intro n
      induction n with
      | zero =>
        intro _
        rw [Nat.add_zero, fold_skip F (fun g hg => by
          have h0 : bitM left g = 0 := by rw [hL g, if_neg (by omega)]
          unfold stepO
          rw [if_neg (by omega)]), dpF_0, if_neg (by dsimp only; omega)]
      | succ n ih =>
        intro hn
        have ih := ih (by omega)
        have hbl := fold_le (f := stepO s f' (q.map (F + ·)) left) hle (F + n) b
        rw [← Nat.add_assoc, fold_next, hst n _ (by omega) (by omega), ih, dpF_s]
        unfold dpS
        generalize dpF s F N d (preS q q.length) n = mn at *
        generalize crossM s F N (preS q q.length) n + (dpM s F N d (preS q q.length ||| 2 ^ n)).1 = v at *
        generalize accM s F N q q.length = acc at *
        by_cases c : bitM (preS q q.length) n = 1
        · rw [if_pos c, if_pos c]
        · rw [if_neg c, if_neg c]
          by_cases c1 : acc + mn.1 < b.1
          · rw [if_pos c1]
            dsimp only
            by_cases c2 : v < mn.1
            · rw [if_pos (by omega), if_pos c2, if_pos (by dsimp only; omega)]
            · rw [if_neg (by omega), if_neg c2, if_pos c1]
          · rw [if_neg c1]
            by_cases c2 : v < mn.1
            · rw [if_pos c2]
            · rw [if_neg (show ¬ acc + v < b.1 by omega), if_neg c2, if_neg c1]
    rw [show s 211 = F + N + (s 211 - (F + N)) by omega, fold_tail (F + N) _ (fun g c h1 h2 => by
      have h0 : bitM left g = 0 := by rw [hL g, if_neg (by omega)]
      unfold stepO
      rw [if_neg (by omega)])]
    exact hmain N (Nat.le_refl _)
