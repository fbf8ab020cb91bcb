/-! THE MODEL: what both do, over the numbers w of the reference as a function of Nats -/
abbrev wSg : Type := Nat → Nat
def su (s : wSg) (i v : Nat) : wSg := fun k => if k = i then v else s k
theorem su_eq (s : wSg) (i v : Nat) : su s i v i = v := if_pos rfl
theorem su_ne {s : wSg} {i v k : Nat} (h : k ≠ i) : su s i v k = s k := if_neg h
/-! the law: steps (kind, number) -/
def bothM (s : Nat) (a b : Int32) : Int32 := if s = 23 then oAdd a b else if s = 24 then oSub a b else if s = 25 then oMul a b else if s = 27 then (if a < b then J 1 else J 0) else if s = 28 then (if a = b then J 1 else J 0) else if s = 29 then (if b < a then J 1 else J 0) else if s = 31 then oAnd a b else oOr a b
def stepM (F : Nat → Int32) (s v : Nat) (st : List Int32) : List Int32 :=
  if s < 23 then (if s = 0 then J v else F s) :: st else if s = 26 then oDiv (st.headD 0) (J v) :: st.drop 1 else if s = 30 then oSub (J 1) (st.headD 0) :: st.drop 1 else bothM s ((st.drop 1).headD 0) (st.headD 0) :: st.drop 2
def evM (F : Nat → Int32) : List (Nat × Nat) → List Int32 → List Int32
  | [], st => st
  | q :: r, st => evM F r (stepM F q.1 q.2 st)
/-- kinds of what lies on the stack (true: 0 or 1); none where a step doesn't fit -/
def tystM (s v : Nat) (T : List Bool) : Option (List Bool) :=
  if s < 23 then (if s ≤ 7 ∧ v ≤ 9999 ∧ T.length < 60 then some (false :: T) else none) else if s = 26 then (match T with
    | _ :: T => if 1 ≤ v ∧ v ≤ 9999 ∧ T.length < 59 then some (false :: T) else none
    | _ => none) else if s = 30 then (match T with
    | true :: T => some (true :: T)
    | _ => none) else if s = 31 ∨ s = 32 then (match T with
    | true :: true :: T => some (true :: T)
    | _ => none) else (match T with
    | _ :: _ :: T => if s = 23 ∨ s = 24 ∨ s = 25 then some (false :: T) else if s = 27 ∨ s = 28 ∨ s = 29 then some (true :: T) else none
    | _ => none)
def tyM : List (Nat × Nat) → List Bool → Option (List Bool)
  | [], T => some T
  | q :: r, T => (tystM q.1 q.2 T).bind (tyM r)
def fitM : List Bool → List Int32 → Prop
  | [], [] => True
  | b :: T, x :: st => (b = true → x = J 0 ∨ x = J 1) ∧ fitM T st
  | _, _ => False
theorem fitM_len : ∀ (T : List Bool) (st : List Int32), fitM T st → T.length = st.length
  | [], [], _ => rfl
  | _ :: T, _ :: st, h => by simp [fitM_len T st h.2]
  | [], _ :: _, h => h.elim
  | _ :: _, [], h => h.elim
theorem fitM_cons {b : Bool} {T : List Bool} {st : List Int32} (h : fitM (b :: T) st) : ∃ x r, st = x :: r ∧ (b = true → x = J 0 ∨ x = J 1) ∧ fitM T r := by
  cases st with
  | nil => exact h.elim
  | cons x r => exact ⟨x, r, rfl, h.1, h.2⟩
theorem fit_step {F : Nat → Int32} {s v : Nat} {T T' : List Bool} {st : List Int32} (h : tystM s v T = some T') (hf : fitM T st) : fitM T' (stepM F s v st) := by
  unfold tystM at h
  unfold stepM
  by_cases h1 : s < 23
  · rw [if_pos h1] at h ⊢
    by_cases h2 : s ≤ 7 ∧ v ≤ 9999 ∧ T.length < 60
    · rw [if_pos h2] at h
      cases h
      exact ⟨fun q => (Bool.false_ne_true q).elim, hf⟩
    · rw [if_neg h2] at h
      cases h
  · rw [if_neg h1] at h ⊢
    by_cases h2 : s = 26
    · rw [if_pos h2] at h ⊢
      cases T with
      | nil => cases h
      | cons b T =>
        obtain ⟨x, r, rfl, -, hr⟩ := fitM_cons hf
        dsimp only at h
        by_cases h3 : 1 ≤ v ∧ v ≤ 9999 ∧ T.length < 59
        · rw [if_pos h3] at h
          cases h
          exact ⟨fun q => (Bool.false_ne_true q).elim, hr⟩
        · rw [if_neg h3] at h
          cases h
    · rw [if_neg h2] at h ⊢
      by_cases h3 : s = 30
      · rw [if_pos h3] at h ⊢
        cases T with
        | nil => cases h
        | cons b T =>
          obtain ⟨x, r, rfl, hx, hr⟩ := fitM_cons hf
          cases b with
          | false => cases h
          | true =>
            cases h
            refine ⟨fun _ => ?_, hr⟩
            rcases hx rfl with rfl | rfl
            · exact Or.inr (J_sub 1 0)
            · exact Or.inl (J_sub 1 1)
      · rw [if_neg h3] at h ⊢
        by_cases h4 : s = 31 ∨ s = 32
        · rw [if_pos h4] at h
          cases T with
          | nil => cases h
          | cons b T =>
            obtain ⟨x, r, rfl, hx, hr⟩ := fitM_cons hf
            cases T with
            | nil => cases b <;> cases h
            | cons b2 T =>
              obtain ⟨y, r2, rfl, hy, hr2⟩ := fitM_cons hr
              cases b with
              | false => cases h
              | true =>
                cases b2 with
                | false => cases h
                | true =>
                  cases h
                  refine ⟨fun _ => ?_, hr2⟩
                  show bothM s y x = J 0 ∨ bothM s y x = J 1
                  have e31 : s = 31 ∨ s = 32 := h4
                  rcases e31 with rfl | rfl <;> rcases hx rfl with rfl | rfl <;> rcases hy rfl with rfl | rfl <;> first | exact Or.inl rfl | exact Or.inr rfl
        · rw [if_neg h4] at h
          cases T with
          | nil => cases h
          | cons b T =>
            obtain ⟨x, r, rfl, hx, hr⟩ := fitM_cons hf
            cases T with
            | nil => cases h
            | cons b2 T =>
              obtain ⟨y, r2, rfl, hy, hr2⟩ := fitM_cons hr
              dsimp only at h
              by_cases h5 : s = 23 ∨ s = 24 ∨ s = 25
              · rw [if_pos h5] at h
                cases h
                exact ⟨fun q => (Bool.false_ne_true q).elim, hr2⟩
              · rw [if_neg h5] at h
                by_cases h6 : s = 27 ∨ s = 28 ∨ s = 29
                · rw [if_pos h6] at h
                  cases h
                  refine ⟨fun _ => ?_, hr2⟩
                  show bothM s y x = J 0 ∨ bothM s y x = J 1
                  rcases h6 with rfl | rfl | rfl
                  · by_cases q : y < x <;> simp [bothM, q]
                  · by_cases q : y = x <;> simp [bothM, q]
                  · by_cases q : x < y <;> simp [bothM, q]
                · rw [if_neg h6] at h
                  cases h
theorem fit_run {F : Nat → Int32} : ∀ (l : List (Nat × Nat)) (T T' : List Bool) (st : List Int32), tyM l T = some T' → fitM T st → fitM T' (evM F l st)
  | [], T, T', st, h, hf => by
    cases h
    exact hf
  | q :: r, T, T', st, h, hf => by
    unfold tyM at h
    cases h1 : tystM q.1 q.2 T with
    | none => rw [h1] at h; cases h
    | some T1 =>
      rw [h1] at h
      exact fit_run r T1 T' _ h (fit_step h1 hf)
/-- steps a .. a + n - 1 -/
def segM (s : wSg) : Nat → Nat → List (Nat × Nat)
  | _, 0 => []
  | a, n + 1 => (s (1620 + 2 * a), s (1620 + 2 * a + 1)) :: segM s (a + 1) n
theorem segM_congr {s s' : wSg} : ∀ (n a : Nat), (∀ k, 1620 + 2 * a ≤ k → k < 1620 + 2 * (a + n) → s k = s' k) → segM s a n = segM s' a n
  | 0, _, _ => rfl
  | n + 1, a, h => by
    show (_, _) :: _ = (_, _) :: _
    rw [h (1620 + 2 * a) (by omega) (by omega), h (1620 + 2 * a + 1) (by omega) (by omega), segM_congr n (a + 1) (fun k h1 h2 => h k (by omega) (by omega))]
/-! what is heard, how full -/
def heardM (s : wSg) (sd p : Nat) : Nat := if p = s 208 then 99 else s (272 + 201 * sd + p)
def fullM (s : wSg) (p : Nat) : Nat := if s 208 = 0 then 0 else 99 * p / s 208
def factM (s : wSg) (p : Nat) (on : Bool) (h : Nat) : Nat → Int32 := fun k => if k = 1 then J p else if k = 2 then J (fullM s p) else if k = 3 then J (if on = true then 1 else 0) else if k = 4 then J h else if k = 5 then J (s 0) else if k = 6 then J (if heardM s (s 0) p < 14 then heardM s (s 0) p else 99) else J (s 4)
def clampM (lo hi : Nat) (v : Int) : Nat := (max (lo : Int) (min (hi : Int) v)).toNat
/-- line i holds for the word -/
def lineM (s : wSg) (F : Nat → Int32) (w i : Nat) : Prop := s (1602 + i) = w ∧ (s (1586 + i) = s (1570 + i) ∨ (evM F (segM s (s (1570 + i)) (s (1586 + i) - s (1570 + i))) []).headD 0 = J 1)
noncomputable def findM (s : wSg) (F : Nat → Int32) (w : Nat) (d : Int32) : Nat → Nat → Int32
  | _, 0 => d
  | i, n + 1 => @ite _ (lineM s F w i) (Classical.propDecidable _) ((evM F (segM s (s (1554 + i)) (s (1570 + i) - s (1554 + i))) []).headD 0) (findM s F w d (i + 1) n)
noncomputable def saysM (s : wSg) (w p : Nat) (on : Bool) (h d lo hi : Nat) : Nat := clampM lo hi (findM s (factM s p on h) w (J d) 0 (s 212)).toInt
noncomputable def speedM (s : wSg) (p : Nat) (on : Bool) (h : Nat) : Nat := saysM s 20 p on h (2 + fullM s p / 20) 1 30
noncomputable def lateM (s : wSg) (p : Nat) (on : Bool) (h : Nat) : Nat := saysM s 21 p on h 1 0 9
noncomputable def slipM (s : wSg) (p : Nat) (on : Bool) (h : Nat) : Nat := saysM s 22 p on h 0 0 1000
def goM (s : wSg) (p : Nat) (on : Bool) (by_ : Nat) : Nat := if on = true then min (s 208) (p + by_) else p - by_
noncomputable def passM (s : wSg) (on : Bool) (h : Nat) : Nat → Nat → Nat
  | 0, p => p
  | k + 1, p => passM s on h k (goM s p on (speedM s p on h))
noncomputable def runsM (s : wSg) (p : Nat) (on : Bool) (h : Nat) : Nat := goM s (passM s on h h p) on (lateM s (passM s on h h p) on h)
def thumbsM (s : wSg) : Nat := 2 * s 209 + 1
def heldM (s : wSg) (h way : Nat) : Nat := h + way - s 209
theorem clampM_le {lo hi : Nat} (h : lo ≤ hi) (v : Int) : clampM lo hi v ≤ hi := by unfold clampM; omega
theorem clampM_ge (lo hi : Nat) (v : Int) : lo ≤ clampM lo hi v := by unfold clampM; omega
theorem goM_le {s : wSg} {p : Nat} (hp : p ≤ s 208) (on : Bool) (n : Nat) : goM s p on n ≤ s 208 := by
  unfold goM
  cases on <;> simp <;> omega
theorem passM_le {s : wSg} {on : Bool} {h : Nat} : ∀ (k p : Nat), p ≤ s 208 → passM s on h k p ≤ s 208
  | 0, _, hp => hp
  | k + 1, p, hp => passM_le k _ (goM_le hp on _)
theorem runsM_le {s : wSg} {p : Nat} (hp : p ≤ s 208) (on : Bool) (h : Nat) : runsM s p on h ≤ s 208 := goM_le (passM_le h p hp) on _
