/-! THE GRAMMARS: a piece goes on, and lays no more steps than it passes tokens -/
section AV
variable {ty : Nat → Nat} {tn : Nat}
def AdvX (tn i n : Nat) (x : wXE) : Prop := ∀ i' L', x = .ok (i', L') → i' ≤ tn ∧ i < i' ∧ L'.length + i ≤ n + i'
def AdvW (tn i n : Nat) (x : wXE) : Prop := ∀ i' L', x = .ok (i', L') → i' ≤ tn ∧ i ≤ i' ∧ L'.length + i ≤ n + i'
theorem bind_ok {x : wXE} {f : Nat → List (Nat × Nat) → wXE} {i' : Nat} {L' : List (Nat × Nat)} (h : bindX x f = .ok (i', L')) : ∃ i L, x = .ok (i, L) ∧ f i L = .ok (i', L') := by
  cases x with
  | ok q => exact ⟨q.1, q.2, rfl, h⟩
  | error q => cases h
theorem snoc_len (L : List (Nat × Nat)) (q : Nat × Nat) : (L ++ [q]).length = L.length + 1 := by rw [List.length_append, List.length_singleton]
theorem unitF_adv {i : Nat} {L : List (Nat × Nat)} (hi : i ≤ tn) : AdvX tn i L.length (unitF ty tn i L) := by
  intro i' L' h
  unfold unitF at h
  by_cases c : unitT 1 (kindM ty tn i) = true
  · rw [if_pos c] at h
    cases h
    have hn := tk_next (ty := ty) (tn := tn) (mode := 1) (i := i) (by have := unitT_1.mp c; omega) hi
    rw [snoc_len]
    omega
  · rw [if_neg c] at h; cases h
theorem partF_adv {i : Nat} {L : List (Nat × Nat)} (hi : i ≤ tn) : AdvX tn i L.length (partF ty tn i L) := by
  intro i' L' h
  unfold partF at h
  by_cases c : tkM ty tn 1 i = 2
  · rw [if_pos c] at h
    by_cases c2 : numM ty tn i = 0
    · rw [if_pos c2] at h; cases h
    · rw [if_neg c2] at h
      cases h
      have hn := tk_next (ty := ty) (tn := tn) (mode := 1) (i := i) (by omega) hi
      rw [snoc_len]
      omega
  · rw [if_neg c] at h; cases h
theorem timesF_adv : ∀ (f : Nat) {i : Nat} {L : List (Nat × Nat)}, i ≤ tn → AdvW tn i L.length (timesF ty tn f i L)
  | 0, i, L, hi => fun i' L' h => by cases h; omega
  | f + 1, i, L, hi => fun i' L' h => by
    rw [timesF] at h
    by_cases c : tkM ty tn 1 i = 142
    · rw [if_pos c] at h
      obtain ⟨i1, L1, h1, h2⟩ := bind_ok h
      have hn := tk_next (ty := ty) (tn := tn) (mode := 1) (i := i) (by omega) hi
      have a := unitF_adv hn.2 _ _ h1
      have b := timesF_adv f a.1 _ _ h2
      rw [snoc_len] at b
      omega
    · rw [if_neg c] at h
      by_cases c2 : tkM ty tn 1 i = 147
      · rw [if_pos c2] at h
        obtain ⟨i1, L1, h1, h2⟩ := bind_ok h
        have hn := tk_next (ty := ty) (tn := tn) (mode := 1) (i := i) (by omega) hi
        have a := partF_adv hn.2 _ _ h1
        have b := timesF_adv f a.1 _ _ h2
        omega
      · rw [if_neg c2] at h
        cases h; omega
theorem prodF_adv {i : Nat} {L : List (Nat × Nat)} (hi : i ≤ tn) : AdvX tn i L.length (prodF ty tn i L) := by
  intro i' L' h
  obtain ⟨i1, L1, h1, h2⟩ := bind_ok h
  have a := unitF_adv hi _ _ h1
  have b := timesF_adv 401 a.1 _ _ h2
  omega
theorem addF_adv : ∀ (f : Nat) {i : Nat} {L : List (Nat × Nat)}, i ≤ tn → AdvW tn i L.length (addF ty tn f i L)
  | 0, i, L, hi => fun i' L' h => by cases h; omega
  | f + 1, i, L, hi => fun i' L' h => by
    rw [addF] at h
    by_cases c : tkM ty tn 1 i = 143 ∨ tkM ty tn 1 i = 145
    · rw [if_pos c] at h
      obtain ⟨i1, L1, h1, h2⟩ := bind_ok h
      have hn := tk_next (ty := ty) (tn := tn) (mode := 1) (i := i) (by omega) hi
      have a := prodF_adv hn.2 _ _ h1
      have b := addF_adv f a.1 _ _ h2
      rw [snoc_len] at b
      omega
    · rw [if_neg c] at h
      cases h; omega
theorem sumF_adv {i : Nat} {L : List (Nat × Nat)} (hi : i ≤ tn) : AdvX tn i L.length (sumF ty tn i L) := by
  intro i' L' h
  obtain ⟨i1, L1, h1, h2⟩ := bind_ok h
  have a := prodF_adv hi _ _ h1
  have b := addF_adv 401 a.1 _ _ h2
  omega
theorem cmpF_adv {i : Nat} {L : List (Nat × Nat)} (hi : i ≤ tn) : AdvX tn i L.length (cmpF ty tn i L) := by
  intro i' L' h
  obtain ⟨i1, L1, h1, h2⟩ := bind_ok h
  have a := sumF_adv hi _ _ h1
  by_cases c : tkM ty tn 1 i1 = 160 ∨ tkM ty tn 1 i1 = 161 ∨ tkM ty tn 1 i1 = 162
  · rw [if_pos c] at h2
    obtain ⟨i2, L2, h3, h4⟩ := bind_ok h2
    have hn := tk_next (ty := ty) (tn := tn) (mode := 1) (i := i1) (by omega) a.1
    have b := sumF_adv hn.2 _ _ h3
    cases h4
    rw [snoc_len]
    omega
  · rw [if_neg c] at h2; cases h2
theorem rowF_adv {C : Nat → List (Nat × Nat) → wXE} (hC : ∀ i L, i ≤ tn → AdvX tn i L.length (C i L)) {w k : Nat} (hw : w ≠ 0) : ∀ (f : Nat) {i : Nat} {L : List (Nat × Nat)}, i ≤ tn → AdvW tn i L.length (rowF ty tn C w k f i L)
  | 0, i, L, hi => fun i' L' h => by cases h; omega
  | f + 1, i, L, hi => fun i' L' h => by
    rw [rowF] at h
    by_cases c : tkM ty tn 1 i = w
    · rw [if_pos c] at h
      obtain ⟨i1, L1, h1, h2⟩ := bind_ok h
      have hn := tk_next (ty := ty) (tn := tn) (mode := 1) (i := i) (by omega) hi
      have a := hC _ _ hn.2 _ _ h1
      have b := rowF_adv hC hw f a.1 _ _ h2
      rw [snoc_len] at b
      omega
    · rw [if_neg c] at h
      cases h; omega
theorem everyF_adv {C : Nat → List (Nat × Nat) → wXE} (hC : ∀ i L, i ≤ tn → AdvX tn i L.length (C i L)) {i : Nat} {L : List (Nat × Nat)} (hi : i ≤ tn) : AdvX tn i L.length (everyF ty tn C i L) := by
  intro i' L' h
  obtain ⟨i1, L1, h1, h2⟩ := bind_ok h
  have a := hC _ _ hi _ _ h1
  have b := rowF_adv hC (by omega) 401 a.1 _ _ h2
  omega
theorem anyF_adv {C : Nat → List (Nat × Nat) → wXE} (hC : ∀ i L, i ≤ tn → AdvX tn i L.length (C i L)) {i : Nat} {L : List (Nat × Nat)} (hi : i ≤ tn) : AdvX tn i L.length (anyF ty tn C i L) := by
  intro i' L' h
  obtain ⟨i1, L1, h1, h2⟩ := bind_ok h
  have a := everyF_adv hC hi _ _ h1
  have b := rowF_adv (fun i L hi => everyF_adv hC hi) (by omega) 401 a.1 _ _ h2
  omega
theorem testF_adv : ∀ (g : Nat) (i : Nat) (L : List (Nat × Nat)), i ≤ tn → AdvX tn i L.length (testF ty tn g i L)
  | 0, i, L, hi => fun i' L' h => by
    rw [testF] at h
    by_cases c : tkM ty tn 1 i = 6 ∨ tkM ty tn 1 i = 140
    · rw [if_pos c] at h; cases h
    · rw [if_neg c] at h
      exact cmpF_adv hi _ _ h
  | g + 1, i, L, hi => fun i' L' h => by
    rw [testF] at h
    by_cases c : tkM ty tn 1 i = 6
    · rw [if_pos c] at h
      obtain ⟨i1, L1, h1, h2⟩ := bind_ok h
      have hn := tk_next (ty := ty) (tn := tn) (mode := 1) (i := i) (by omega) hi
      have a := testF_adv g _ _ hn.2 _ _ h1
      cases h2
      rw [snoc_len]
      omega
    · rw [if_neg c] at h
      by_cases c2 : tkM ty tn 1 i = 140
      · rw [if_pos c2] at h
        obtain ⟨i1, L1, h1, h2⟩ := bind_ok h
        have hn := tk_next (ty := ty) (tn := tn) (mode := 1) (i := i) (by omega) hi
        have a := anyF_adv (testF_adv g) hn.2 _ _ h1
        by_cases c3 : tkM ty tn 1 i1 = 141
        · rw [if_pos c3] at h2
          have hn2 := tk_next (ty := ty) (tn := tn) (mode := 1) (i := i1) (by omega) a.1
          cases h2
          omega
        · rw [if_neg c3] at h2; cases h2
      · rw [if_neg c2] at h
        exact cmpF_adv hi _ _ h
end AV
