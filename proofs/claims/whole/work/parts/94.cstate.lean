/-! THE CLASS: on which numbers each part hangs -/
theorem ahead_ag {s s' : wSg} (e : ∀ k, k = 208 ∨ k = 211 ∨ (216 ≤ k ∧ k < 674) → s' k = s k) : ∀ i, i ≤ 14 → aheadM s' i = aheadM s i
  | 0, _ => rfl
  | i + 1, h => by rw [aheadM, aheadM, ahead_ag e i (by omega), e _ (by omega)]
theorem SdK.ag {b : Nat} {s s' : wSg} {m : wMm} (h : SdK b s m) (h14 : s 211 ≤ 14) (h200 : s 208 ≤ 200) (e : ∀ k, k = 208 ∨ k = 211 ∨ (216 ≤ k ∧ k < 674) → s' k = s k) : SdK b s' m := by
  have e8 : s' 208 = s 208 := e 208 (by omega)
  have e11 : s' 211 = s 211 := e 211 (by omega)
  refine ⟨by rw [e8, e11, ahead_ag e _ h14]; exact h.1, fun i hi => ?_, fun sd p h1 h2 => ?_⟩
  · rw [e11] at hi
    rw [e _ (by omega), e _ (by omega), e _ (by omega)]
    exact h.2.1 i hi
  · rw [e8] at h2
    rw [h.2.2 sd p h1 h2]
    unfold heardM
    rw [e8, e _ (by omega)]
theorem seg_ag {s s' : wSg} (e : ∀ k, 1554 ≤ k → s' k = s k) (a n : Nat) : segM s' a n = segM s a n := segM_congr n a (fun k _ _ => e k (by omega))
theorem cpos_ag {s s' : wSg} (e : ∀ k, 1554 ≤ k → s' k = s k) (k : Nat) : cposM s' k = cposM s k := by unfold cposM; rw [seg_ag e]
theorem LwK.ag {b : Nat} {s s' : wSg} {m : wMm} (h : LwK b s m) (e2 : s' 212 = s 212) (e : ∀ k, 1554 ≤ k → s' k = s k) : LwK b s' m := by
  obtain ⟨h0, T, h1, h2, h3, h4, h5⟩ := h
  refine ⟨by rw [e2]; exact h0, T, fun i hi => ?_, by rw [cpos_ag e]; exact h2, by rw [cpos_ag e]; exact h3, by rw [seg_ag e]; exact h4, fun i hi => ?_⟩
  · rw [e2] at hi
    rw [e (1586 + i) (by omega)]
    exact h1 i hi
  · rw [e2] at hi
    rw [e (1602 + i) (by omega), e (1554 + i) (by omega), e (1570 + i) (by omega), e (1586 + i) (by omega), cpos_ag e, cpos_ag e, cpos_ag e]
    exact h5 i hi
theorem EvK.ag {b : Nat} {s s' : wSg} {m : wMm} (h : EvK b s m) (h60 : s 213 ≤ 60) (e : ∀ k, k = 213 ∨ (674 ≤ k ∧ k < 734) → s' k = s k) : EvK b s' m := by
  have e3 : s' 213 = s 213 := e 213 (by omega)
  refine ⟨by rw [e3]; exact h.1, fun i hi => ?_⟩
  rw [e3] at hi
  rw [e (674 + i) (by omega)]
  exact h.2 i hi
theorem AfK.ag {b : Nat} {s s' : wSg} {m : wMm} (h : AfK b s m) (e : ∀ k, k = 214 ∨ (734 ≤ k ∧ k < 930) → s' k = s k) : AfK b s' m := ⟨by rw [e 214 (by omega)]; exact h.1, fun i hi => by
  rw [e (734 + i) (by omega)]
  exact h.2 i hi⟩
theorem BkK.ag {b : Nat} {s s' : wSg} {m : wMm} (h : BkK b s m) (e : ∀ k, 954 ≤ k ∧ k < 1554 → s' k = s k) : BkK b s' m := fun i hi => by
  rw [e (954 + i) (by omega)]
  exact h i hi
theorem StK.ag {b : Nat} {s s' : wSg} {m : wMm} (h : StK b s m) (e : ∀ k, k < 208 → s' k = s k) : StK b s' m := ⟨by rw [e 0 (by omega), e 1 (by omega), e 2 (by omega), e 3 (by omega), e 4 (by omega), e 5 (by omega), e 6 (by omega)]; exact h.1, fun p hp => by
  rw [e (7 + p) (by omega)]
  exact h.2 p hp⟩
theorem lawOK.ag {s s' : wSg} (h : lawOK s) (e2 : s' 212 = s 212) (e : ∀ k, 1554 ≤ k → s' k = s k) : lawOK s' := by
  obtain ⟨h1, h2⟩ := h
  refine ⟨by rw [e2]; exact h1, fun i hi => ?_⟩
  rw [e2] at hi
  rw [e (1554 + i) (by omega), e (1570 + i) (by omega), e (1586 + i) (by omega), e (1602 + i) (by omega), seg_ag e, seg_ag e]
  exact h2 i hi
theorem heardOK.ag {s s' : wSg} (h : heardOK s) (h200 : s 208 ≤ 200) (e : ∀ k, k = 208 ∨ k = 211 ∨ (216 ≤ k ∧ k < 674) → s' k = s k) : heardOK s' := fun sd p h1 h2 => by
  rw [e 208 (by omega)] at h2
  rw [e (272 + 201 * sd + p) (by omega)]
  exact h sd p h1 h2
theorem hrdOK.ag {s s' : wSg} (h : hrdOK s) (h200 : s 208 ≤ 200) (e : ∀ k, k = 208 ∨ k = 211 ∨ (216 ≤ k ∧ k < 674) → s' k = s k) : hrdOK s' := fun sd p h1 h2 => by
  rw [e 208 (by omega)] at h2
  rw [e (272 + 201 * sd + p) (by omega), e 211 (by omega)]
  exact h sd p h1 h2
theorem songsOK.ag {s s' : wSg} (h : songsOK s) (e : ∀ k, k = 208 ∨ k = 211 ∨ (216 ≤ k ∧ k < 674) → s' k = s k) : songsOK s' := by
  obtain ⟨h1, h2, h3, h4⟩ := h
  have e11 : s' 211 = s 211 := e 211 (by omega)
  have e8 : s' 208 = s 208 := e 208 (by omega)
  refine ⟨by rw [e11]; exact h1, by rw [e8]; exact h2, fun i hi => ?_, fun i hi => ?_⟩
  · rw [e11] at hi
    rw [e (216 + 4 * i) (by omega), e (216 + 4 * i + 1) (by omega), e (216 + 4 * i + 2) (by omega), e (216 + 4 * i + 3) (by omega), e8]
    exact h3 i hi
  · rw [e11] at hi
    rw [e (216 + 4 * i) (by omega), e (216 + 4 * (i + 1)) (by omega)]
    exact h4 i hi
theorem standOK.ag {s s' : wSg} (h : standOK s) (e : ∀ k, k ≤ 208 → s' k = s k) : standOK s' := by
  obtain ⟨a0, a1, a2, a6, a7, a8⟩ := h
  refine ⟨by rw [e 0 (by omega)]; exact a0, by rw [e 1 (by omega), e 208 (by omega)]; exact a1, by rw [e 2 (by omega)]; exact a2, by rw [e 6 (by omega)]; exact a6, fun p hp => by rw [e _ (by omega)]; exact a7 p hp, fun p hp hq => ?_⟩
  rw [e 208 (by omega)] at hq
  rw [e _ (by omega)]
  exact a8 p hp hq
theorem deedsOK.ag {s s' : wSg} (h : deedsOK s) (e : ∀ k, k = 213 ∨ (674 ≤ k ∧ k < 734) → s' k = s k) : deedsOK s' := by
  have e3 : s' 213 = s 213 := e 213 (by omega)
  refine ⟨by rw [e3]; exact h.1, fun i hi => ?_⟩
  rw [e3] at hi
  have := h.1
  rw [e (674 + i) (by omega)]
  exact h.2 i hi
theorem aftOK.ag {s s' : wSg} (h : aftOK s) (e : ∀ k, 734 ≤ k ∧ k < 930 → s' k = s k) : aftOK s' := fun i hi => by
  rw [e (734 + i) (by omega)]
  exact h i hi
theorem wornOK.ag {s s' : wSg} (h : wornOK s) (e : ∀ k, k = 215 ∨ (930 ≤ k ∧ k < 954) → s' k = s k) : wornOK s' := by
  have e5 : s' 215 = s 215 := e 215 (by omega)
  refine ⟨by rw [e5]; exact h.1, fun i hi => ?_⟩
  rw [e5] at hi
  have := h.1
  rw [e (930 + 2 * i) (by omega), e (930 + 2 * i + 1) (by omega)]
  exact h.2 i hi
theorem WnK.ag {b : Nat} {s s' : wSg} {m : wMm} (h : WnK b s m) (h12 : s 215 ≤ 12) (e : ∀ k, k = 209 ∨ k = 210 ∨ k = 215 ∨ (930 ≤ k ∧ k < 954) → s' k = s k) : WnK b s' m := by
  have e5 : s' 215 = s 215 := e 215 (by omega)
  refine ⟨by rw [e5, e 209 (by omega), e 210 (by omega)]; exact h.1, fun i hi => ?_⟩
  rw [e5] at hi
  rw [e (930 + 2 * i) (by omega), e (930 + 2 * i + 1) (by omega)]
  exact h.2 i hi
/-! THE CLASS: its state, and the end of a call -/
def ClS (st : Nat) (s ks : wSg) (Bs : List wSg) (img : Bool) (e : Nat → Nat) (m : wMm) : Prop := DkK 6 s m ∧ BsK Bs e m ∧ eOK e ∧ m 0 12 = J (if img = true then 1 else 0) ∧ (img = true → DkK 35 ks m) ∧ m 86 4 = J st ∧ StmK m st
/-- what the numbers, those kept and those of the image must be -/
def nOK (B : Nat) (s ks : wSg) (Bs : List wSg) (img : Bool) : Prop := gOK B s ∧ (∀ j, j < Bs.length → standOK (backM s (Bs.getD j z0)) ∧ (Bs.getD j z0) 4 ≤ B) ∧ (img = true → gOK B ks)
/-- the reference's cells, and the tape of bytes, stay -/
def KC (m m' : wMm) : Prop := (∀ c, 119 ≤ c → m' c = m c) ∧ m' 1 = m 1 ∧ m' 2 = m 2
theorem KC.refl (m : wMm) : KC m m := ⟨fun _ _ => rfl, rfl, rfl⟩
theorem KC.trans {a b c : wMm} (h : KC a b) (g : KC b c) : KC a c := ⟨fun q hq => (g.1 q hq).trans (h.1 q hq), g.2.1.trans h.2.1, g.2.2.trans h.2.2⟩
theorem KC.set {a b : wMm} (h : KC a b) {c k : Nat} {v : Int32} (hc : c < 119 ∧ c ≠ 1 ∧ c ≠ 2) : KC a (mU b c k v) := ⟨fun q hq => by rw [mU_ne (by omega)]; exact h.1 q hq, by rw [mU_ne (by omega)]; exact h.2.1, by rw [mU_ne (by omega)]; exact h.2.2⟩
def PCl (m : wMm) (st : Nat) (s' ks' : wSg) (Bs' : List wSg) (img' : Bool) (r : Option Value) : Option Value → wS → Prop := fun r' u => r' = r ∧ ∃ (m' : wMm) (e' : Nat → Nat) (st' : Nat), u = (m', RF e') ∧ st' ≤ st + 1000 ∧ ClS st' s' ks' Bs' img' e' m' ∧ KC m m'
theorem KH.cls {st st' : Nat} {s ks : wSg} {Bs : List wSg} {img : Bool} {e : Nat → Nat} {m m' : wMm} (h : ClS st s ks Bs img e m) (k : KH m m') (h4 : m' 86 4 = J st') (hs : StmK m' st') : ClS st' s ks Bs img e m' := by
  obtain ⟨a1, a2, a3, a4, a5, a6, a7⟩ := h
  refine ⟨?_, ⟨a2.1, by rw [k 0 (by omega) (by omega)]; exact a2.2.1, fun j hj => ?_⟩, a3, by rw [k 0 (by omega) (by omega)]; exact a4, fun hi => (a5 hi).o (fun c _ _ _ => k c (by omega) (by omega)), h4, hs⟩
  · exact a1.o (fun c h1 h2 h3 => k c (by omega) (by omega))
  · have h6 := a2.1
    obtain ⟨d0, _⟩ := a3.cell (k := j) (by omega) e
    exact (a2.2.2 j hj).o (fun c _ _ => k c (by omega) (by omega))
theorem KH.kc {m m' : wMm} (k : KH m m') : KC m m' := ⟨fun c hc => k c (by omega) (by omega), k 1 (by omega) (by omega), k 2 (by omega) (by omega)⟩
/-- a call in thought ends -/
theorem CTh.end_ {st : Nat} {s ks : wSg} {Bs : List wSg} {img : Bool} {e : Nat → Nat} {m : wMm} {r : Option Value} {f : wM} {vs : List Value} (h : ClS st s ks Bs img e m) (g : PM f vs (m, RF e) (CTh m e st r)) : PM f vs (m, RF e) (PCl m st s ks Bs img r) := PM_mono g (fun r' u hh => by
  obtain ⟨rfl, m', st', rfl, h1, h2, h3, h4⟩ := hh
  exact ⟨rfl, m', e, st', rfl, by omega, h4.cls h h1 h2, h4.kc⟩)
/-- a call that changes nothing ends -/
theorem PCl.same {st : Nat} {s ks : wSg} {Bs : List wSg} {img : Bool} {e : Nat → Nat} {m : wMm} {r : Option Value} (h : ClS st s ks Bs img e m) : PCl m st s ks Bs img r r (m, RF e) := ⟨rfl, m, e, st, rfl, by omega, h, KC.refl m⟩
/-- stands are kept: the deck stays as it was -/
theorem keep_end {st : Nat} {s ks : wSg} {Bs : List wSg} {img : Bool} {e e1 : Nat → Nat} {m m1 : wMm} (h : ClS st s ks Bs img e m) (k1 : eOK e1) (k2 : BsK (keepL Bs s) e1 m1) (k3 : KE m m1) : ClS st s ks (keepL Bs s) img e1 m1 ∧ KC m m1 := by
  obtain ⟨a1, a2, a3, a4, a5, a6, a7⟩ := h
  exact ⟨⟨a1.o (fun c _ _ _ => k3.1 c (by omega) (by omega)), k2, k1, by rw [k3.2 12 (by omega)]; exact a4, fun hi => (a5 hi).o (fun c _ _ _ => k3.1 c (by omega) (by omega)), by rw [k3.1 86 (by omega) (by omega)]; exact a6, a7.o (fun c _ _ => k3.1 c (by omega) (by omega))⟩, fun c hc => k3.1 c (by omega) (by omega), k3.1 1 (by omega) (by omega), k3.1 2 (by omega) (by omega)⟩
/-- a deed is done -/
theorem deed_end {st st' : Nat} {s s' ks : wSg} {Bs : List wSg} {img : Bool} {e : Nat → Nat} {m m' : wMm} (h : ClS st s ks Bs img e m) (k1 : DkK 6 s' m') (k2 : m' 86 4 = J st') (k3 : StmK m' st') (k : KD m m') : ClS st' s' ks Bs img e m' ∧ KC m m' := by
  obtain ⟨a1, a2, a3, a4, a5, a6, a7⟩ := h
  refine ⟨⟨k1, ⟨a2.1, by rw [k 0 (by omega) (by omega)]; exact a2.2.1, fun j hj => ?_⟩, a3, by rw [k 0 (by omega) (by omega)]; exact a4, fun hi => (a5 hi).o (fun c _ _ _ => k c (by omega) (by omega)), k2, k3⟩, fun c hc => k c (by omega) (by omega), k 1 (by omega) (by omega), k 2 (by omega) (by omega)⟩
  have h6 := a2.1
  obtain ⟨d0, _⟩ := a3.cell (k := j) (by omega) e
  exact (a2.2.2 j hj).o (fun c _ _ => k c (by omega) (by omega))
