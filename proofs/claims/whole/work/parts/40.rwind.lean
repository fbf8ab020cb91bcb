/-! THE REFERENCE: winding -/
/-- told numbers are kept: all from 208 on but the book's rows -/
def LO (s s' : wSg) : Prop := ∀ k, 208 ≤ k → ¬ (954 ≤ k ∧ k < 1554) → s' k = s k
theorem LO.refl (s : wSg) : LO s s := fun _ _ _ => rfl
theorem LO.trans {a b c : wSg} (h : LO a b) (g : LO b c) : LO a c := fun k h1 h2 => (g k h1 h2).trans (h k h1 h2)
theorem LO.put {a b : wSg} (h : LO a b) {i v : Nat} (hi : i < 208 ∨ (954 ≤ i ∧ i < 1554)) : LO a (su b i v) := h.trans (fun k h1 h2 => su_ne (by omega))
theorem LO.kn {a b f : wSg} (h : LO a b) : LO a (setK b f) := h.trans (fun k h1 h2 => if_neg (by omega))
theorem lawOK.lo {s s' : wSg} (h : lawOK s) (g : LO s s') : lawOK s' := by
  obtain ⟨h1, h2⟩ := h
  refine ⟨by rw [g 212 (by omega) (by omega)]; exact h1, fun i hi => ?_⟩
  rw [g 212 (by omega) (by omega)] at hi
  obtain ⟨a1, a2, a3, a4, a5, a6⟩ := h2 i hi
  rw [g (1554 + i) (by omega) (by omega), g (1570 + i) (by omega) (by omega), g (1586 + i) (by omega) (by omega), g (1602 + i) (by omega) (by omega)]
  rw [segM_congr (s := s') (s' := s) _ _ (fun k k1 k2 => g k (by omega) (by omega)), segM_congr (s := s') (s' := s) _ _ (fun k k1 k2 => g k (by omega) (by omega))]
  exact ⟨a1, a2, a3, a4, a5, a6⟩
theorem heardOK.lo {s s' : wSg} (h : heardOK s) (g : LO s s') (h208 : s 208 ≤ 200) : heardOK s' := fun sd p h1 h2 => by
  rw [g 208 (by omega) (by omega)] at h2
  rw [g _ (by omega) (by omega)]
  exact h sd p h1 h2
theorem thinkOK.lo {s s' : wSg} (h : thinkOK s) (g : LO s s') (h0 : s' 0 ≤ 1) : thinkOK s' := by
  obtain ⟨a1, a2, a3, a4, a5, a6⟩ := h
  exact ⟨a1.lo g, a2.lo g a3, by rw [g 208 (by omega) (by omega)]; exact a3, h0, by rw [g 209 (by omega) (by omega)]; exact a5, by rw [g 210 (by omega) (by omega)]; exact a6⟩
def standOK (s : wSg) : Prop := s 0 ≤ 1 ∧ s 1 ≤ s 208 ∧ s 2 < 1000 ∧ s 6 ≤ 150 ∧ knowOK s
theorem cntM_lt (c p q : Nat) : cntM c p q < 1000 := by unfold cntM; omega
theorem goM_le' {s : wSg} (p : Nat) (hp : p ≤ s 208) (on : Bool) (n : Nat) : goM s p on n ≤ s 208 := goM_le hp on n
theorem su_at (s : wSg) (i v k : Nat) : su s i v k = if k = i then v else s k := rfl
theorem setK_at (s f : wSg) (k : Nat) : setK s f k = if 7 ≤ k ∧ k < 208 then f (k - 7) else s k := rfl
/-- a number of the stand (none of those known) is set -/
theorem standOK.put {s : wSg} (h : standOK s) {i v : Nat} (hi : i < 7 ∨ (954 ≤ i ∧ i < 1554)) (h0 : i = 0 → v ≤ 1) (h1 : i = 1 → v ≤ s 208) (h2 : i = 2 → v < 1000) (h6 : i = 6 → v ≤ 150) : standOK (su s i v) := by
  obtain ⟨a0, a1, a2, a6, a7, a8⟩ := h
  have e208 : su s i v 208 = s 208 := su_ne (by omega)
  refine ⟨?_, ?_, ?_, ?_, fun p hp => ?_, fun p hp hq => ?_⟩
  · rw [su_at]; split
    · exact h0 (by omega)
    · exact a0
  · rw [e208, su_at]; split
    · exact h1 (by omega)
    · exact a1
  · rw [su_at]; split
    · exact h2 (by omega)
    · exact a2
  · rw [su_at]; split
    · exact h6 (by omega)
    · exact a6
  · rw [su_ne (by omega)]; exact a7 p hp
  · rw [e208] at hq
    rw [su_ne (by omega)]; exact a8 p hp hq
theorem standOK.kn {s f : wSg} (h : standOK s) (h1 : ∀ p, p < 201 → f p ≤ 1) (h2 : ∀ p, p < 201 → s 208 < p → f p = 0) : standOK (setK s f) := by
  obtain ⟨a0, a1, a2, a6, a7, a8⟩ := h
  have e208 : setK s f 208 = s 208 := if_neg (by omega)
  refine ⟨?_, ?_, ?_, ?_, fun p hp => ?_, fun p hp hq => ?_⟩
  · rw [setK_at, if_neg (by omega)]; exact a0
  · rw [e208, setK_at, if_neg (by omega)]; exact a1
  · rw [setK_at, if_neg (by omega)]; exact a2
  · rw [setK_at, if_neg (by omega)]; exact a6
  · rw [setK_at, if_pos (by omega), show 7 + p - 7 = p by omega]; exact h1 p hp
  · rw [e208] at hq
    rw [setK_at, if_pos (by omega), show 7 + p - 7 = p by omega]; exact h2 p hp hq
/-- what deeds need and keep -/
def invS (s : wSg) : Prop := thinkOK s ∧ standOK s
theorem invS.le {s : wSg} (h : invS s) : s 208 ≤ 200 ∧ s 0 ≤ 1 ∧ s 1 ≤ s 208 ∧ s 2 < 1000 ∧ s 6 ≤ 150 ∧ s 209 ≤ 4 := ⟨h.1.2.2.1, h.2.1, h.2.2.1, h.2.2.2.1, h.2.2.2.2.1, h.1.2.2.2.2.1⟩
theorem LO.e208 {s s' : wSg} (g : LO s s') : s' 208 = s 208 := g 208 (by omega) (by omega)
theorem invS.mk' {s s' : wSg} (h : invS s) (g : LO s s') (h' : standOK s') : invS s' := ⟨h.1.lo g h'.1, h'⟩
theorem goesM_lo (s : wSg) (on : Bool) (n : Nat) (c : Bool) : LO s (goesM s on n c) := by
  unfold goesM
  cases c
  · exact (LO.refl s).put (by omega)
  · exact ((LO.refl s).put (by omega)).put (by omega)
theorem goesM_st {s : wSg} (h : standOK s) (on : Bool) (n : Nat) (c : Bool) : standOK (goesM s on n c) := by
  have h1 := goM_le h.2.1 on n
  unfold goesM
  cases c
  · exact h.put (by omega) (by omega) (fun _ => h1) (by omega) (by omega)
  · exact (h.put (by omega) (by omega) (fun _ => h1) (by omega) (by omega)).put (by omega) (by omega) (by omega) (fun _ => cntM_lt _ _ _) (by omega)
theorem secM_lo (s : wSg) (on : Bool) (h : Nat) : LO s (secM s on h) := by
  unfold secM
  split
  · exact ((LO.refl s).put (by omega)).trans (goesM_lo _ _ _ _)
  · exact goesM_lo _ _ _ _
theorem secM_st {s : wSg} (h : standOK s) (on : Bool) (n : Nat) : standOK (secM s on n) := by
  unfold secM
  split
  · exact goesM_st (h.put (by omega) (by omega) (by omega) (by omega) (by omega)) _ _ _
  · exact goesM_st h _ _ _
theorem secsM_lo (on : Bool) (h : Nat) : ∀ (k : Nat) (s : wSg), LO s (secsM on h k s)
  | 0, s => LO.refl s
  | k + 1, s => (secM_lo s on h).trans (secsM_lo on h k _)
theorem secsM_st {on : Bool} {h : Nat} : ∀ (k : Nat) {s : wSg}, standOK s → standOK (secsM on h k s)
  | 0, _, hs => hs
  | k + 1, _, hs => secsM_st k (secM_st hs on h)
theorem noteM_lo {s : wSg} (h6 : s 6 ≤ 150) (a b : Nat) : LO s (noteM s a b) := by
  unfold noteM
  split
  · exact LO.refl s
  · exact (((((LO.refl s).put (by omega)).put (by omega)).put (by omega)).put (by omega)).put (by omega)
theorem noteM_st {s : wSg} (h : standOK s) (a b : Nat) : standOK (noteM s a b) := by
  have h6 := h.2.2.2.1
  unfold noteM
  split
  · exact h
  · exact ((((h.put (by omega) (by omega) (by omega) (by omega) (by omega)).put (by omega) (by omega) (by omega) (by omega) (by omega)).put (by omega) (by omega) (by omega) (by omega) (by omega)).put (by omega) (by omega) (by omega) (by omega) (by omega)).put (by omega) (by omega) (by omega) (by omega) (fun _ => by omega)
theorem drawnM_lo (s : wSg) : LO s (drawnM s) := by
  unfold drawnM
  split
  · exact (LO.refl s).put (by omega)
  · exact LO.refl s
theorem drawnM_st {s : wSg} (h : standOK s) : standOK (drawnM s) := by
  unfold drawnM
  split
  · exact h.put (by omega) (by omega) (by omega) (by omega) (by omega)
  · exact h
theorem woundM_0 {s : wSg} {on : Bool} {h p : Nat} (hp : s 208 < p) : woundM s on h p = 0 := by
  rw [woundM_b, b01_f]
  rintro ⟨q, q1, -, w, -, w2⟩
  have := runsM_le q1 on (heldM s h w)
  omega
theorem woundK_st {s s0 : wSg} (h : standOK s) (e : s0 208 = s 208) (on : Bool) (n : Nat) : standOK (setK s (woundM s0 on n)) := h.kn (fun p _ => by rw [woundM_b]; exact b01_le _) (fun p _ hp => woundM_0 (by rw [e]; exact hp))
theorem pressM_le {s : wSg} {n : Nat} (hn : n ≤ 60) (h9 : s 209 ≤ 4) : pressM s n ≤ 64 := by
  unfold pressM
  split
  · have : drawM (s 5) (thumbsM s) < thumbsM s := Nat.mod_lt _ (by unfold thumbsM; omega)
    unfold thumbsM at this ⊢
    omega
  · omega
theorem wind1M_lo (s : wSg) (on : Bool) (n : Nat) : LO s (wind1M s on n) := (drawnM_lo s).kn.trans (secsM_lo _ _ _ _)
theorem wind1M_st {s : wSg} (h : standOK s) (on : Bool) (n : Nat) : standOK (wind1M s on n) := secsM_st _ (woundK_st (drawnM_st h) (drawnM_lo s).e208.symm on n)
theorem windM_lo {s : wSg} (h : standOK s) (on : Bool) (n : Nat) : LO s (windM s on n) := by
  have a := (wind1M_lo s on n).trans (goesM_lo (wind1M s on n) on (lateM (wind1M s on n) ((wind1M s on n) 1) on (pressM s n)) true)
  have b := goesM_st (wind1M_st h on n) on (lateM (wind1M s on n) ((wind1M s on n) 1) on (pressM s n)) true
  exact ((a.put (by omega)).put (by omega)).trans (noteM_lo (((b.put (i := 3) (by omega) (by omega) (by omega) (by omega) (by omega)).put (i := 4) (by omega) (by omega) (by omega) (by omega) (by omega)).2.2.2.1) _ _)
theorem windM_st {s : wSg} (h : standOK s) (on : Bool) (n : Nat) : standOK (windM s on n) := by
  have b := goesM_st (wind1M_st h on n) on (lateM (wind1M s on n) ((wind1M s on n) 1) on (pressM s n)) true
  exact noteM_st ((b.put (i := 3) (by omega) (by omega) (by omega) (by omega) (by omega)).put (i := 4) (by omega) (by omega) (by omega) (by omega) (by omega)) _ _
