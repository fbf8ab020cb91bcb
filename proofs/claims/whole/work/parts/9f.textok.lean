/-! THE MODEL: what is read keeps the numbers as they must be -/
theorem gOK_law {B : Nat} {s : wSg} (h : gOK B s) {Ls : List wLn} {L : List (Nat × Nat)} {v : Nat → Nat} {m : wMm} (hL : LwG Ls L m) (hl : L.length ≤ 400) (hV : VOK L v) : gOK B (lawW Ls L v s) := by
  have e : ∀ k, k < 1554 → k ≠ 212 → lawW Ls L v s k = s k := fun k h1 h2 => lw_lo Ls L v s hL.1 h1 h2
  obtain ⟨⟨⟨t1, t2, t3, t4, t5, t6⟩, st⟩, so, de, af, wo, hr, h4⟩ := h
  refine ⟨⟨⟨hL.ok hl hV s, t2.ag t3 (fun k hk => e k (by omega) (by omega)), by rw [e 208 (by omega) (by omega)]; exact t3, by rw [e 0 (by omega) (by omega)]; exact t4, by rw [e 209 (by omega) (by omega)]; exact t5, by rw [e 210 (by omega) (by omega)]; exact t6⟩, st.ag (fun k hk => e k (by omega) (by omega))⟩, so.ag (fun k hk => e k (by omega) (by omega)), de.ag (fun k hk => e k (by omega) (by omega)), af.ag (fun k hk => e k (by omega) (by omega)), wo.ag (fun k hk => e k (by omega) (by omega)), hr.ag t3 (fun k hk => e k (by omega) (by omega)), by rw [e 4 (by omega) (by omega)]; exact h4⟩
theorem ew_at (D : List Nat) (s : wSg) (h : D.length ≤ 60) : evenW D s 213 = D.length ∧ (∀ i, i < D.length → evenW D s (674 + i) = D.getD i 0) ∧ ∀ k, ¬ (k = 213 ∨ (674 ≤ k ∧ k < 734)) → evenW D s k = s k := by
  unfold evenW
  refine ⟨?_, fun i hi => ?_, fun k hk => ?_⟩
  · simp (disch := omega) only [copW, su, if_neg, if_true]
  · simp (disch := omega) only [copW, if_pos]
    rw [show 674 + i - 674 = i by omega]
  · simp (disch := omega) only [copW, su, if_neg]
theorem EvT.kept {D : List Nat} {m : wMm} (h : EvT D m) (h60 : D.length ≤ 60) (s : wSg) : EvK 79 (evenW D s) m := by
  obtain ⟨e1, e2, _⟩ := ew_at D s h60
  refine ⟨by rw [e1, h.1]; exact congrArg J (by omega), fun i hi => ?_⟩
  rw [e1] at hi
  rw [e2 i hi]
  exact h.2 i hi (by omega)
theorem gOK_even {B : Nat} {s : wSg} (h : gOK B s) {D : List Nat} (hD : DOK D) (h60 : D.length ≤ 60) : gOK B (evenW D s) := by
  obtain ⟨e1, e2, e⟩ := ew_at D s h60
  obtain ⟨⟨⟨t1, t2, t3, t4, t5, t6⟩, st⟩, so, de, af, wo, hr, h4⟩ := h
  refine ⟨⟨⟨t1.ag (e 212 (by omega)) (fun k hk => e k (by omega)), t2.ag t3 (fun k hk => e k (by omega)), by rw [e 208 (by omega)]; exact t3, by rw [e 0 (by omega)]; exact t4, by rw [e 209 (by omega)]; exact t5, by rw [e 210 (by omega)]; exact t6⟩, st.ag (fun k hk => e k (by omega))⟩, so.ag (fun k hk => e k (by omega)), ⟨by rw [e1]; exact h60, fun i hi => ?_⟩, af.ag (fun k hk => e k (by omega)), wo.ag (fun k hk => e k (by omega)), hr.ag t3 (fun k hk => e k (by omega)), by rw [e 4 (by omega)]; exact h4⟩
  rw [e1] at hi
  rw [e2 i hi]
  exact hD i
/-- rows as they can be read -/
def RoOK (R : List wRo) : Prop := ∀ k, k < R.length → (R.getD k (0, 0, 0)).1 < 14 ∧ (R.getD k (0, 0, 0)).2.1 < 14 ∧ (R.getD k (0, 0, 0)).2.2 ≤ 99
theorem rowW_o (R : List wRo) (hR : RoOK R) (s : wSg) {k : Nat} (hk : ¬ (734 ≤ k ∧ k < 930)) : ∀ n, n ≤ R.length → rowW R n s k = s k
  | 0, _ => rfl
  | n + 1, h => by
    obtain ⟨h1, h2, _⟩ := hR n (by omega)
    show su _ _ _ k = _
    unfold su
    rw [if_neg (by omega), rowW_o R hR s hk n (by omega)]
theorem rowW_99 (R : List wRo) (hR : RoOK R) {s : wSg} {k : Nat} (hk : s k ≤ 99) : ∀ n, n ≤ R.length → rowW R n s k ≤ 99
  | 0, _ => hk
  | n + 1, h => by
    obtain ⟨_, _, h3⟩ := hR n (by omega)
    show su _ _ _ k ≤ _
    unfold su
    split
    · exact h3
    · exact rowW_99 R hR hk n (by omega)
theorem aw_at (R : List wRo) (s : wSg) (hR : RoOK R) : aftW R s 214 = R.length ∧ (∀ i, i < 196 → aftW R s (734 + i) = rowW R R.length (fun _ => 0) (734 + i) ∧ aftW R s (734 + i) ≤ 99) ∧ ∀ k, ¬ (k = 214 ∨ (734 ≤ k ∧ k < 930)) → aftW R s k = s k := by
  unfold aftW
  refine ⟨?_, fun i hi => ⟨?_, ?_⟩, fun k hk => ?_⟩
  · rw [rowW_o R hR _ (by omega) _ (Nat.le_refl _)]
    simp (disch := omega) only [copW, su, if_neg, if_true]
  · refine rowW_at R ?_ _
    show (if _ then _ else _) = _
    rw [if_pos (by omega)]
  · refine rowW_99 R hR ?_ _ (Nat.le_refl _)
    show (if _ then _ else _) ≤ 99
    rw [if_pos (by omega)]
    show (0 : Nat) ≤ 99
    omega
  · rw [rowW_o R hR _ (by omega) _ (Nat.le_refl _)]
    simp (disch := omega) only [copW, su, if_neg]
theorem WiK.kept {R : List wRo} {m : wMm} (h0 : m 84 0 = J R.length) (h : WiK R R.length m) (hR : RoOK R) (s : wSg) : AfK 84 (aftW R s) m := by
  obtain ⟨e1, e2, _⟩ := aw_at R s hR
  exact ⟨by rw [e1]; exact h0, fun i hi => by rw [(e2 i hi).1]; exact h i hi⟩
theorem gOK_aft {B : Nat} {s : wSg} (h : gOK B s) {R : List wRo} (hR : RoOK R) : gOK B (aftW R s) := by
  obtain ⟨e1, e2, e⟩ := aw_at R s hR
  obtain ⟨⟨⟨t1, t2, t3, t4, t5, t6⟩, st⟩, so, de, af, wo, hr, h4⟩ := h
  exact ⟨⟨⟨t1.ag (e 212 (by omega)) (fun k hk => e k (by omega)), t2.ag t3 (fun k hk => e k (by omega)), by rw [e 208 (by omega)]; exact t3, by rw [e 0 (by omega)]; exact t4, by rw [e 209 (by omega)]; exact t5, by rw [e 210 (by omega)]; exact t6⟩, st.ag (fun k hk => e k (by omega))⟩, so.ag (fun k hk => e k (by omega)), de.ag (fun k hk => e k (by omega)), fun i hi => (e2 i hi).2, wo.ag (fun k hk => e k (by omega)), hr.ag t3 (fun k hk => e k (by omega)), by rw [e 4 (by omega)]; exact h4⟩
theorem copW_ne {s : wSg} {base n : Nat} {f : Nat → Nat} {k : Nat} (h : ¬ (base ≤ k ∧ k < base + n)) : copW s base n f k = s k := if_neg h
theorem tw_o (ts : wTs) (s : wSg) (h : ts.2.1.length ≤ 14) {k : Nat} (hk : k = 5 ∨ k = 6 ∨ k = 209 ∨ k = 210 ∨ k = 212 ∨ k = 215 ∨ 930 ≤ k) : tapeW ts s k = s k := by
  by_cases c : 208 ≤ k
  · unfold tapeW
    rw [rewind_hi c, copW_ne (by omega), su_ne (by omega), su_ne (by omega), copW_ne (by omega), copW_ne (by omega), su_ne (by omega), su_ne (by omega)]
  · unfold tapeW rewindM setK
    rw [if_neg (by omega), su_ne (by omega), su_ne (by omega), su_ne (by omega), su_ne (by omega), su_ne (by omega), copW_ne (by omega), su_ne (by omega), su_ne (by omega), copW_ne (by omega), copW_ne (by omega), su_ne (by omega), su_ne (by omega)]
theorem tw_0 (ts : wTs) (s : wSg) : tapeW ts s 0 = 0 ∧ tapeW ts s 1 = 0 ∧ tapeW ts s 2 = 0 ∧ tapeW ts s 3 = 0 ∧ tapeW ts s 4 = 0 ∧ tapeW ts s 213 = 0 ∧ tapeW ts s 214 = 0 ∧ (∀ i, i < 196 → tapeW ts s (734 + i) = 0) ∧ ∀ p, p < 201 → tapeW ts s (7 + p) = aloneM 0 p := by
  unfold tapeW
  refine ⟨?_, ?_, ?_, ?_, ?_, ?_, ?_, fun i hi => ?_, fun p hp => ?_⟩
  · unfold rewindM setK
    rw [if_neg (by omega)]
    simp (disch := omega) only [su, if_neg, if_true]
  · unfold rewindM setK
    rw [if_neg (by omega)]
    simp (disch := omega) only [su, if_neg, if_true]
  · unfold rewindM setK
    rw [if_neg (by omega)]
    simp (disch := omega) only [su, if_neg, if_true]
  · unfold rewindM setK
    rw [if_neg (by omega)]
    simp (disch := omega) only [su, if_neg, if_true]
  · unfold rewindM setK
    rw [if_neg (by omega)]
    simp (disch := omega) only [su, if_neg, if_true]
  · rw [rewind_hi (by omega)]
    simp (disch := omega) only [copW, su, if_neg, if_true]
  · rw [rewind_hi (by omega)]
    simp (disch := omega) only [copW, su, if_neg, if_true]
  · rw [rewind_hi (by omega)]
    simp (disch := omega) only [copW, if_pos]
  · unfold rewindM setK
    rw [if_pos (by omega), show 7 + p - 7 = p by omega]
theorem gOK_tape {B : Nat} {s : wSg} (h : gOK B s) {ts : wTs} (hT : TsF ts) : gOK B (tapeW ts s) := by
  obtain ⟨⟨i1, i2, i3, i4, i5⟩, ⟨c0, c1⟩, a, hA⟩ := hT
  have e := fun k hk => tw_o ts s i2 (k := k) hk
  have e8 := tw_208 ts s i2
  have e11 := tw_211 ts s i2
  obtain ⟨z0, z1, z2, z3, z4, z13, z14, z7, zk⟩ := tw_0 ts s
  obtain ⟨⟨⟨t1, t2, t3, t4, t5, t6⟩, st⟩, so, de, af, wo, hr, h4⟩ := h
  have hh : ∀ sd p, sd ≤ 1 → p < tapeW ts s 208 → tapeW ts s (272 + 201 * sd + p) = hrdS ts.2.1 sd p ts.2.1.length := fun sd p h1 h2 => by
    rw [e8] at h2
    rw [show 272 + 201 * sd + p = 272 + (201 * sd + p) by omega, tw_h ts s (by omega)]
    exact i5 sd p h1 (by omega)
  have hsg : ∀ i, i < ts.2.1.length → tapeW ts s (216 + 4 * i) = (ts.2.1.getD i (0, 0, 0, 0)).1 ∧ tapeW ts s (216 + 4 * i + 1) = (ts.2.1.getD i (0, 0, 0, 0)).2.1 ∧ tapeW ts s (216 + 4 * i + 2) = (ts.2.1.getD i (0, 0, 0, 0)).2.2.1 ∧ tapeW ts s (216 + 4 * i + 3) = (ts.2.1.getD i (0, 0, 0, 0)).2.2.2 := fun i hi => by
    obtain ⟨w1, w2, w3, w4⟩ := songW_at ts.2.1 i
    have e0 := tw_song ts s i2 (k := i) (j := 0) hi (by omega)
    rw [Nat.add_zero, Nat.add_zero] at e0
    exact ⟨e0.trans w1, (tw_song ts s i2 hi (by omega)).trans w2, (tw_song ts s i2 hi (by omega)).trans w3, (tw_song ts s i2 hi (by omega)).trans w4⟩
  refine ⟨⟨⟨t1.ag (e 212 (by omega)) (fun k hk => e k (by omega)), fun sd p h1 h2 => ?_, by rw [e8]; omega, by rw [z0]; omega, by rw [e 209 (by omega)]; exact t5, by rw [e 210 (by omega)]; exact t6⟩, ⟨by rw [z0]; omega, by rw [z1]; omega, by rw [z2]; omega, by rw [e 6 (by omega)]; exact st.2.2.2.1, fun p hp => ?_, fun p hp hq => ?_⟩⟩, ⟨by rw [e11]; exact i2, by rw [e8]; omega, fun i hi => ?_, fun i hi => ?_⟩, ⟨by rw [z13]; omega, fun i hi => by rw [z13] at hi; omega⟩, fun i hi => by rw [z7 i hi]; omega, wo.ag (fun k hk => e k (by omega)), fun sd p h1 h2 => ?_, by rw [z4]; omega⟩
  · rw [hh sd p h1 h2]
    have := hrdS_lt ts.2.1 sd p ts.2.1.length
    omega
  · rw [zk p hp]
    unfold aloneM
    split <;> omega
  · rw [zk p hp]
    unfold aloneM
    rw [if_neg (by omega)]
  · rw [e11] at hi
    obtain ⟨w1, w2, w3, w4⟩ := hsg i hi
    obtain ⟨h1, h2, h3, h5, h6⟩ := i4 i hi
    rw [w1, w2, w3, w4, e8]
    refine ⟨h1, ?_, h3, h5, h6⟩
    obtain q | q : (ts.2.1.getD i (0, 0, 0, 0)).1 = 0 ∨ (ts.2.1.getD i (0, 0, 0, 0)).1 = 1 := by omega
    · rw [q] at h2; omega
    · rw [q] at h2; omega
  · rw [e11] at hi
    rw [(hsg i (by omega)).1, (hsg (i + 1) hi).1, hA.2 i (by omega), hA.2 (i + 1) hi]
    split
    · omega
    · rw [if_neg (by omega)]
      omega
  · rw [hh sd p h1 h2, e11]
    exact hrdS_lt ts.2.1 sd p ts.2.1.length
