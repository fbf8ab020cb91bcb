/-! THE GRAMMARS: the law's pieces, over places of tokens; ok (place, steps), or error (fault, place) -/
abbrev wXE : Type := Except (Nat × Nat) (Nat × List (Nat × Nat))
section GR
variable (ty : Nat → Nat) (tn : Nat)
noncomputable def tkM (mode i : Nat) : Nat := refT mode (kindM ty tn i)
def bindX (x : wXE) (f : Nat → List (Nat × Nat) → wXE) : wXE := match x with
  | .ok (i, L) => f i L
  | .error q => .error q
noncomputable def unitF (i : Nat) (L : List (Nat × Nat)) : wXE :=
  if unitT 1 (kindM ty tn i) = true then .ok (nextM ty tn i, L ++ [(tkM ty tn 1 i - 40, if tkM ty tn 1 i = 2 then numM ty tn i else 0)]) else .error (1, i)
noncomputable def partF (i : Nat) (L : List (Nat × Nat)) : wXE :=
  if tkM ty tn 1 i = 2 then (if numM ty tn i = 0 then .error (2, i) else .ok (nextM ty tn i, L ++ [(26, numM ty tn i)])) else .error (1, i)
noncomputable def timesF : Nat → Nat → List (Nat × Nat) → wXE
  | 0, i, L => .ok (i, L)
  | f + 1, i, L => if tkM ty tn 1 i = 142 then bindX (unitF ty tn (nextM ty tn i) L) (fun i L => timesF f i (L ++ [(25, 0)])) else if tkM ty tn 1 i = 147 then bindX (partF ty tn (nextM ty tn i) L) (timesF f) else .ok (i, L)
noncomputable def prodF (i : Nat) (L : List (Nat × Nat)) : wXE := bindX (unitF ty tn i L) (timesF ty tn 401)
noncomputable def addF : Nat → Nat → List (Nat × Nat) → wXE
  | 0, i, L => .ok (i, L)
  | f + 1, i, L => if tkM ty tn 1 i = 143 ∨ tkM ty tn 1 i = 145 then bindX (prodF ty tn (nextM ty tn i) L) (fun i' L => addF f i' (L ++ [(if tkM ty tn 1 i = 143 then 23 else 24, 0)])) else .ok (i, L)
noncomputable def sumF (i : Nat) (L : List (Nat × Nat)) : wXE := bindX (prodF ty tn i L) (addF ty tn 401)
noncomputable def cmpF (i : Nat) (L : List (Nat × Nat)) : wXE := bindX (sumF ty tn i L) (fun i L =>
  if tkM ty tn 1 i = 160 ∨ tkM ty tn 1 i = 161 ∨ tkM ty tn 1 i = 162 then bindX (sumF ty tn (nextM ty tn i) L) (fun i' L => .ok (i', L ++ [(tkM ty tn 1 i - 133, 0)])) else .error (1, i))
/-- a row of C, joined by the word w, laid down as step k -/
noncomputable def rowF (C : Nat → List (Nat × Nat) → wXE) (w k : Nat) : Nat → Nat → List (Nat × Nat) → wXE
  | 0, i, L => .ok (i, L)
  | f + 1, i, L => if tkM ty tn 1 i = w then bindX (C (nextM ty tn i) L) (fun i L => rowF C w k f i (L ++ [(k, 0)])) else .ok (i, L)
noncomputable def everyF (C : Nat → List (Nat × Nat) → wXE) (i : Nat) (L : List (Nat × Nat)) : wXE := bindX (C i L) (rowF ty tn C 5 31 401)
noncomputable def anyF (C : Nat → List (Nat × Nat) → wXE) (i : Nat) (L : List (Nat × Nat)) : wXE := bindX (everyF ty tn C i L) (rowF ty tn (everyF ty tn C) 4 32 401)
/-- one test; g more may be opened -/
noncomputable def testF : Nat → Nat → List (Nat × Nat) → wXE
  | 0, i, L => if tkM ty tn 1 i = 6 ∨ tkM ty tn 1 i = 140 then .error (3, i) else cmpF ty tn i L
  | g + 1, i, L => if tkM ty tn 1 i = 6 then bindX (testF g (nextM ty tn i) L) (fun i L => .ok (i, L ++ [(30, 0)])) else if tkM ty tn 1 i = 140 then bindX (anyF ty tn (testF g) (nextM ty tn i) L) (fun i L => if tkM ty tn 1 i = 141 then .ok (nextM ty tn i, L) else .error (1, i)) else cmpF ty tn i L
end GR
/-! the reader's memory -/
/-- the steps laid so far: a name's number is free -/
def LayT (m : wMm) (L : List (Nat × Nat)) : Prop := m 119 17 = J L.length ∧ ∀ k, k < L.length → ∃ v : Nat, v ≤ 9999 ∧ m 125 (2 * k) = J ((L.getD k (0, 0)).1) ∧ m 125 (2 * k + 1) = J v ∧ ((L.getD k (0, 0)).1 = 0 ∨ (L.getD k (0, 0)).1 = 26 → v = (L.getD k (0, 0)).2)
theorem tokU_o {m : wMm} {ty : Nat → Nat} {tn mode i c k : Nat} (h : c ≠ 119 ∨ ¬ (24 ≤ k ∧ k ≤ 27)) : tokU m ty tn mode i c k = m c k := by
  unfold tokU
  rw [mU_skip (by omega), mU_skip (by omega), mU_skip (by omega), mU_skip (by omega)]
theorem tokU_c {m : wMm} {ty : Nat → Nat} {tn mode i c : Nat} (h : c ≠ 119) : tokU m ty tn mode i c = m c := by
  unfold tokU
  rw [mU_ne h, mU_ne h, mU_ne h, mU_ne h]
theorem ValOK.tok {m : wMm} (h : ValOK m) {ty : Nat → Nat} {tn mode i : Nat} : ValOK (tokU m ty tn mode i) := by
  obtain ⟨v, hv, h27⟩ := h
  have e : (tokU m ty tn mode i) 119 27 = valM ty tn i (m 119 27) := by
    unfold tokU
    rw [mU_skip (by omega), mU_skip (by omega), mU_skip (by omega), mU_same]
  unfold ValOK
  rw [e]
  unfold valM
  by_cases c1 : tn ≤ i
  · rw [if_pos c1]; exact ⟨v, hv, h27⟩
  · rw [if_neg c1]
    by_cases c2 : bL (ty i) = true
    · rw [if_pos c2]; exact ⟨v, hv, h27⟩
    · rw [if_neg c2]
      by_cases c3 : bD (ty i) = true
      · rw [if_pos c3]
        have hin := numF_le ty i (fun _ => Or.inr trivial) (min 4 (endD ty tn i - i)) (fun x hx => ?_)
        · have b : 10 ^ (min 4 (endD ty tn i - i)) ≤ 10 ^ 4 := Nat.pow_le_pow_right (by omega) (by omega)
          exact ⟨_, by unfold numM; omega, rfl⟩
        · have hd : ∀ n j x, j + x < spanF bD ty n j → bD (ty (j + x)) = true := by
            intro n
            induction n with
            | zero => intro j x hx; rw [spanF] at hx; omega
            | succ n ih =>
              intro j x hx
              rw [spanF] at hx
              by_cases q : bD (ty j) = true
              · rw [if_pos q] at hx
                cases x with
                | zero => exact q
                | succ x =>
                  have := ih (j + 1) x (by omega)
                  rw [show j + (x + 1) = j + 1 + x by omega]
                  exact this
              · rw [if_neg q] at hx; omega
          have := hd (tn - i) i x (by unfold endD at hx; omega)
          unfold bD at this
          rw [decide_eq_true_iff] at this
          omega
      · rw [if_neg c3]; exact ⟨v, hv, h27⟩
/-- cell 125, fields 17, 24 .. 29, 31 alone change -/
def KL (m m' : wMm) : Prop := (∀ c, c ≠ 119 → c ≠ 125 → m' c = m c) ∧ (∀ k, k ≠ 17 → ¬ (24 ≤ k ∧ k ≤ 29) → k ≠ 31 → m' 119 k = m 119 k) ∧ (ValOK m → ValOK m')
theorem ValOK.o {m m' : wMm} (h : ValOK m) (e : m' 119 27 = m 119 27) : ValOK m' := by
  obtain ⟨v, h1, h2⟩ := h
  exact ⟨v, h1, by rw [e]; exact h2⟩
theorem KL.refl (m : wMm) : KL m m := ⟨fun _ _ _ => rfl, fun _ _ _ _ => rfl, id⟩
theorem KL.trans {a b c : wMm} (h : KL a b) (g : KL b c) : KL a c := ⟨fun q h1 h2 => (g.1 q h1 h2).trans (h.1 q h1 h2), fun k h1 h2 h3 => (g.2.1 k h1 h2 h3).trans (h.2.1 k h1 h2 h3), fun v => g.2.2 (h.2.2 v)⟩
theorem KL.fld {a b : wMm} (h : KL a b) {k : Nat} {v : Int32} (hk : k = 17 ∨ (24 ≤ k ∧ k ≤ 29 ∧ k ≠ 27) ∨ k = 31) : KL a (mU b 119 k v) := ⟨fun c h1 h2 => by rw [mU_ne h1]; exact h.1 c h1 h2, fun j h1 h2 h3 => by rw [mU_skip (by omega)]; exact h.2.1 j h1 h2 h3, fun v => (h.2.2 v).o (mU_skip (by omega))⟩
theorem KL.set {a b : wMm} (h : KL a b) {k : Nat} {v : Int32} : KL a (mU b 125 k v) := ⟨fun c h1 h2 => by rw [mU_ne h2]; exact h.1 c h1 h2, fun j h1 h2 h3 => by rw [mU_ne (by omega)]; exact h.2.1 j h1 h2 h3, fun v => (h.2.2 v).o (mU_skip (by omega))⟩
theorem KL.tok {a b : wMm} (h : KL a b) {ty : Nat → Nat} {tn mode i : Nat} : KL a (tokU b ty tn mode i) := ⟨fun c h1 h2 => by rw [tokU_c h1]; exact h.1 c h1 h2, fun j h1 h2 h3 => by rw [tokU_o (by omega)]; exact h.2.1 j h1 h2 h3, fun v => (h.2.2 v).tok⟩
theorem KL.lay {a b : wMm} (h : KL a b) {x y n : Nat} : KL a (layU b x y n) := ((h.set).set).fld (by omega)
theorem KL.bad {a b : wMm} (h : KL a b) {k : Nat} : KL a (badU b k) := (h.fld (by omega)).fld (by omega)
def GoodL (ty : Nat → Nat) (tn : Nat) (m : wMm) (i : Nat) (L : List (Nat × Nat)) (d : Nat) : Prop := AtT m ty tn 1 i ∧ LayT m L ∧ ValOK m ∧ L.length ≤ i ∧ m 119 31 = J d
def BadL (m : wMm) (k p : Nat) : Prop := m 119 28 = J k ∧ m 119 29 = J p
theorem badU_is {m : wMm} {ty : Nat → Nat} {tn mode i k : Nat} (h : AtT m ty tn mode i) : BadL (badU m k) k i := by
  unfold badU BadL
  refine ⟨by rw [mU_skip (by omega), mU_same], by rw [mU_same]; exact h.2.2.2.1.2.1⟩
theorem next_gt {ty : Nat → Nat} {tn i : Nat} (h : i < tn) : i < nextM ty tn i := by
  have hs : ∀ (P : Nat → Bool), P (ty i) = true → i < spanF P ty (tn - i) i := fun P hP => by
    rw [show tn - i = (tn - i - 1) + 1 by omega, span_go hP]
    have := span_in P ty (tn - i - 1) (i + 1)
    omega
  have he : i < endM ty tn i := by
    unfold endM
    rw [if_neg (by omega)]
    by_cases c1 : bL (ty i) = true
    · rw [if_pos c1]; exact hs bL c1
    · rw [if_neg c1]
      by_cases c2 : bD (ty i) = true
      · rw [if_pos c2]; exact hs bD c2
      · rw [if_neg c2]; omega
  have := skip_in (ty := ty) (end_in (ty := ty) (tn := tn) (i := i) (by omega)).2
  unfold nextM
  omega
theorem tk_lt {ty : Nat → Nat} {tn mode i : Nat} (h : tkM ty tn mode i ≠ 0) : i < tn := Classical.byContradiction (fun c => h (refT_0.mpr (by unfold kindM; rw [if_pos (by omega)])))
theorem tk_next {ty : Nat → Nat} {tn mode i : Nat} (h : tkM ty tn mode i ≠ 0) (hi : i ≤ tn) : i < nextM ty tn i ∧ nextM ty tn i ≤ tn := ⟨next_gt (tk_lt h), (next_in hi).2⟩
theorem LayT.kl {m m' : wMm} {L : List (Nat × Nat)} (h : LayT m L) (h17 : m' 119 17 = m 119 17) (h125 : m' 125 = m 125) : LayT m' L := ⟨by rw [h17]; exact h.1, fun k hk => by rw [h125]; exact h.2 k hk⟩
theorem GoodL.next {ty : Nat → Nat} {tn : Nat} {m : wMm} {i d : Nat} {L : List (Nat × Nat)} (h : GoodL ty tn m i L d) : GoodL ty tn (tokU m ty tn 1 (nextM ty tn i)) (nextM ty tn i) L d := by
  obtain ⟨h1, h2, h3, h4, h5⟩ := h
  have := (next_in (ty := ty) h1.2.2.2.2).1
  exact ⟨next_at h1, h2.kl (tokU_o (by omega)) (tokU_c (by omega)), h3.tok, by omega, by rw [tokU_o (by omega)]; exact h5⟩
theorem GoodL.len {ty : Nat → Nat} {tn : Nat} {m : wMm} {i d : Nat} {L : List (Nat × Nat)} (h : GoodL ty tn m i L d) : L.length ≤ 400 := by
  have := h.1.2.2.2.2
  have := h.1.1.1
  have := h.2.2.2.1
  omega
theorem getD_pr_l {l : List (Nat × Nat)} {x z : Nat × Nat} {j : Nat} (h : j < l.length) : (l ++ [x]).getD j z = l.getD j z := by
  simp [List.getD_eq_getElem?_getD, List.getElem?_append_left h]
theorem getD_pr_r (l : List (Nat × Nat)) (x z : Nat × Nat) : (l ++ [x]).getD l.length z = x := by
  simp [List.getD_eq_getElem?_getD]
theorem LayT.lay {m : wMm} {L : List (Nat × Nat)} (h : LayT m L) {a b c : Nat} (hb : b ≤ 9999) (hc : a = 0 ∨ a = 26 → b = c) : LayT (layU m a b L.length) (L ++ [(a, c)]) := by
  unfold layU
  refine ⟨by rw [mU_same, List.length_append, List.length_singleton]; rfl, fun k hk => ?_⟩
  rw [List.length_append, List.length_singleton] at hk
  by_cases q : k = L.length
  · subst q
    refine ⟨b, hb, ?_, ?_, ?_⟩
    · rw [getD_pr_r, mU_ne (by omega), mU_skip (by omega), mU_same]
    · rw [mU_ne (by omega), mU_same]
    · rw [getD_pr_r]; exact hc
  · obtain ⟨v, h1, h2, h3, h4⟩ := h.2 k (by omega)
    refine ⟨v, h1, ?_, ?_, ?_⟩
    · rw [getD_pr_l (by omega), mU_ne (by omega), mU_skip (by omega), mU_skip (by omega)]; exact h2
    · rw [mU_ne (by omega), mU_skip (by omega), mU_skip (by omega)]; exact h3
    · rw [getD_pr_l (by omega)]; exact h4
theorem layU_f {m : wMm} {a b n k : Nat} (h : k ≠ 17) : layU m a b n 119 k = m 119 k := by
  unfold layU
  rw [mU_skip (by omega), mU_skip (by omega), mU_skip (by omega)]
theorem GoodL.lay {ty : Nat → Nat} {tn : Nat} {m : wMm} {i d : Nat} {L : List (Nat × Nat)} (h : GoodL ty tn m i L d) (hi : L.length < i) {a b c : Nat} (hb : b ≤ 9999) (hc : a = 0 ∨ a = 26 → b = c) : GoodL ty tn (layU m a b L.length) i (L ++ [(a, c)]) d := by
  obtain ⟨h1, h2, ⟨v, h3, h3'⟩, h4, h5⟩ := h
  exact ⟨h1.lay, h2.lay hb hc, ⟨v, h3, by rw [layU_f (by omega)]; exact h3'⟩, by rw [List.length_append, List.length_singleton]; omega, by rw [layU_f (by omega)]; exact h5⟩
/-- the end of a piece -/
def LawO (ty : Nat → Nat) (tn : Nat) (e : Nat → Nat) (m : wMm) (d : Nat) (res : wXE) : Option Value → wS → Prop := fun r u => match res with
  | .ok (i, L) => r = some (.int (J 1)) ∧ ∃ m', u = (m', RF e) ∧ GoodL ty tn m' i L d ∧ KL m m'
  | .error (k, p) => r = some (.int (J 0)) ∧ ∃ m', u = (m', RF e) ∧ BadL m' k p ∧ KL m m'
theorem LawO.use {f : wM} {vs : List Value} {ty : Nat → Nat} {tn : Nat} {e : Nat → Nat} {m m0 : wMm} {d : Nat} {res : wXE} {Q : Option Value → wS → Prop} (h : PM f vs (m, RF e) (LawO ty tn e m d res)) (hk : KL m0 m) (k1 : ∀ i L m', res = .ok (i, L) → GoodL ty tn m' i L d → KL m0 m' → Q (some (.int (J 1))) (m', RF e)) (k2 : ∀ k p m', res = .error (k, p) → BadL m' k p → KL m0 m' → Q (some (.int (J 0))) (m', RF e)) : PM f vs (m, RF e) Q := PM_mono h (fun r u hh => by
  cases res with
  | ok q =>
    obtain ⟨i, L⟩ := q
    obtain ⟨rfl, m', rfl, h1, h2⟩ := hh
    exact k1 i L m' rfl h1 (hk.trans h2)
  | error q =>
    obtain ⟨k, p⟩ := q
    obtain ⟨rfl, m', rfl, h1, h2⟩ := hh
    exact k2 k p m' rfl h1 (hk.trans h2))
theorem LawO.ok {ty : Nat → Nat} {tn : Nat} {e : Nat → Nat} {m m' : wMm} {d i : Nat} {L : List (Nat × Nat)} {res : wXE} (hr : res = .ok (i, L)) (h1 : GoodL ty tn m' i L d) (h2 : KL m m') : LawO ty tn e m d res (some (.int (J 1))) (m', RF e) := by
  subst hr
  exact ⟨rfl, m', rfl, h1, h2⟩
theorem LawO.err {ty : Nat → Nat} {tn : Nat} {e : Nat → Nat} {m m' : wMm} {d k p : Nat} {res : wXE} (hr : res = .error (k, p)) (h1 : BadL m' k p) (h2 : KL m m') : LawO ty tn e m d res (some (.int (J 0))) (m', RF e) := by
  subst hr
  exact ⟨rfl, m', rfl, h1, h2⟩
theorem unitT_1 {ty : Nat → Nat} {tn i : Nat} : unitT 1 (kindM ty tn i) = true ↔ tkM ty tn 1 i = 2 ∨ (41 ≤ tkM ty tn 1 i ∧ tkM ty tn 1 i ≤ 47) := by
  unfold unitT tkM
  rw [decide_eq_true_iff]
