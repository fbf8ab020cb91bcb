/-! THE EVENING'S GRAMMAR, row by row -/
theorem bindR_assoc {α β γ : Type} (x : wXR α) (f : α → wXR β) (g : β → wXR γ) : bindR (bindR x f) g = bindR x (fun a => bindR (f a) g) := by
  cases x <;> rfl
theorem bindR_congr {α β : Type} {x : wXR α} {f g : α → wXR β} (h : ∀ a, x = .ok a → f a = g a) : bindR x f = bindR x g := by
  cases x with
  | ok a => exact h a rfl
  | error q => rfl
theorem bindR_num {α β : Type} {ty : Nat → Nat} {tn a b i : Nat} (k : Nat → Nat → wXR α) (g : α → wXR β) : bindR (numX ty tn a b i k) g = numX ty tn a b i (fun i n => bindR (k i n) g) := by
  unfold numX
  split
  · split <;> rfl
  · rfl
theorem bindR_need {α β : Type} {ty : Nat → Nat} {tn mode t i : Nat} (k : Nat → wXR α) (g : α → wXR β) : bindR (needX ty tn mode t i k) g = needX ty tn mode t i (fun i => bindR (k i) g) := by
  unfold needX
  split <;> rfl
theorem numX_congr {α : Type} {ty : Nat → Nat} {tn a b i : Nat} {k k' : Nat → Nat → wXR α} (h : kindM ty tn i = 200 → a ≤ numM ty tn i → numM ty tn i ≤ b → k (nextM ty tn i) (numM ty tn i) = k' (nextM ty tn i) (numM ty tn i)) : numX ty tn a b i k = numX ty tn a b i k' := by
  unfold numX
  split
  · split
    · rename_i q1 q2
      exact h q1 q2.1 q2.2
    · rfl
  · rfl
theorem needX_congr {α : Type} {ty : Nat → Nat} {tn mode t i : Nat} {k k' : Nat → wXR α} (h : tkM ty tn mode i = t → k (nextM ty tn i) = k' (nextM ty tn i)) : needX ty tn mode t i k = needX ty tn mode t i k' := by
  unfold needX
  split
  · rename_i q
    exact h q
  · rfl
theorem copyF_len (d : Nat) : ∀ (n : Nat) (D : List Nat), (copyF d n D).length = D.length + n
  | 0, D => rfl
  | n + 1, D => by
    show (copyF d n _).length = _
    rw [copyF_len d n, List.length_append, List.length_singleton]
    omega
theorem copyF_succ (d : Nat) : ∀ (n : Nat) (D : List Nat), copyF d (n + 1) D = copyF d n D ++ [(copyF d n D).getD ((copyF d n D).length - d) 0]
  | 0, D => rfl
  | n + 1, D => by
    show copyF d (n + 1) (D ++ [_]) = copyF d n (D ++ [_]) ++ _
    rw [copyF_succ d n (D ++ [_])]
    rfl
theorem copyF_low (d : Nat) {k : Nat} : ∀ (n : Nat) (D : List Nat), k < D.length → (copyF d n D).getD k 0 = D.getD k 0
  | 0, D, _ => rfl
  | n + 1, D, h => by
    rw [copyF_succ, getD_n_l (by rw [copyF_len]; omega), copyF_low d n D h]
theorem copyF_get {d : Nat} {D : List Nat} (hd : 0 < d) (hD : d ≤ D.length) : ∀ (n x : Nat), x < n + d → (copyF d n D).getD (D.length - d + x) 0 = D.getD (D.length - d + x % d) 0
  | 0, x, h => by rw [Nat.mod_eq_of_lt (by omega)]; rfl
  | n + 1, x, h => by
    rw [copyF_succ]
    by_cases c : x < n + d
    · rw [getD_n_l (by rw [copyF_len]; omega), copyF_get hd hD n x c]
    · have hx : D.length - d + x = (copyF d n D).length := by rw [copyF_len]; omega
      rw [hx, getD_n_r, copyF_len, show D.length + n - d = D.length - d + n by omega, copyF_get hd hD n n (by omega), show x = n + d by omega, Nat.add_mod_right]
section EM
variable {ty : Nat → Nat} {tn : Nat}
def AdvD (ty : Nat → Nat) (tn : Nat) (A : Nat → List Nat → wXD) : Prop := ∀ i D q, i ≤ tn → A i D = .ok q → i < q.1 ∧ q.1 ≤ tn ∧ D.length ≤ q.2.length
theorem deedF_adv : AdvD ty tn (deedF ty tn) := by
  intro i D q hi h
  unfold deedF at h
  by_cases c : tkM ty tn 2 i = 10
  · rw [if_pos c] at h
    cases h
    have := tk_next (ty := ty) (tn := tn) (mode := 2) (i := i) (by omega) hi
    rw [List.length_append]
    exact ⟨this.1, this.2, by omega⟩
  · rw [if_neg c] at h
    obtain ⟨_, _, h3, h4⟩ := numX_ok h
    cases h4
    have a := kd_lt h3
    have b := next_gt (ty := ty) a
    have c := (next_in (ty := ty) hi).1
    have d := (next_in (ty := ty) (tn := tn) (i := nextM ty tn i) (by omega)).2
    rw [List.length_append]
    exact ⟨by show i < nextM ty tn (nextM ty tn i); omega, d, by omega⟩
theorem rowD_adv {A : Nat → List Nat → wXD} (hA : AdvD ty tn A) : ∀ (f i : Nat) (D : List Nat) (q : Nat × List Nat), i ≤ tn → rowD ty tn A f i D = .ok q → i ≤ q.1 ∧ q.1 ≤ tn ∧ D.length ≤ q.2.length
  | 0, i, D, q, hi, h => by cases h; exact ⟨Nat.le_refl _, hi, Nat.le_refl _⟩
  | f + 1, i, D, q, hi, h => by
    rw [rowD] at h
    by_cases c : 10 ≤ tkM ty tn 2 i ∧ tkM ty tn 2 i ≤ 14
    · rw [if_pos c] at h
      obtain ⟨a, h1, h2⟩ := bindR_ok h
      have h3 : i < a.1 ∧ a.1 ≤ tn ∧ D.length ≤ a.2.length := by
        by_cases c2 : tkM ty tn 2 i = 14
        · rw [if_pos c2] at h1; exact hA i D a hi h1
        · rw [if_neg c2] at h1; exact deedF_adv i D a hi h1
      have h4 := rowD_adv hA f a.1 a.2 q h3.2.1 h2
      exact ⟨by omega, h4.2.1, by omega⟩
    · rw [if_neg c] at h
      cases h
      exact ⟨Nat.le_refl _, hi, Nat.le_refl _⟩
theorem againF_adv : ∀ g, AdvD ty tn (againF ty tn g)
  | 0 => fun i D q hi h => by cases h
  | g + 1 => fun i D q hi h => by
    rw [againF] at h
    obtain ⟨_, _, h3, h4⟩ := numX_ok h
    obtain ⟨h5, h6⟩ := needX_ok h4
    obtain ⟨a, h7, h8⟩ := bindR_ok h6
    obtain ⟨h9, h10⟩ := needX_ok h8
    have a1 := (next_in (ty := ty) hi).1
    have a2 := kd_lt h3
    have a3 := next_gt (ty := ty) a2
    have a4 := (next_in (ty := ty) (tn := tn) (i := nextM ty tn i) (by omega)).2
    have a5 := next_in (ty := ty) a4
    have a6 := rowD_adv (againF_adv g) _ _ _ _ a5.2 h7
    have a7 := next_in (ty := ty) a6.2.1
    cases h10
    refine ⟨?_, a7.2, ?_⟩
    · show i < nextM ty tn a.1
      omega
    · show D.length ≤ (copyF _ _ _).length
      rw [copyF_len]; omega
theorem rowD_fuel {A : Nat → List Nat → wXD} (hA : AdvD ty tn A) : ∀ (f f' i : Nat) (D : List Nat), i ≤ tn → tn - i < f → tn - i < f' → rowD ty tn A f i D = rowD ty tn A f' i D
  | 0, _, i, D, _, h, _ => by omega
  | f + 1, 0, i, D, _, _, h => by omega
  | f + 1, f' + 1, i, D, hi, h1, h2 => by
    rw [rowD, rowD]
    by_cases c : 10 ≤ tkM ty tn 2 i ∧ tkM ty tn 2 i ≤ 14
    · rw [if_pos c, if_pos c]
      refine bindR_congr (fun a ha => ?_)
      have h3 : i < a.1 ∧ a.1 ≤ tn ∧ D.length ≤ a.2.length := by
        by_cases c2 : tkM ty tn 2 i = 14
        · rw [if_pos c2] at ha; exact hA i D a hi ha
        · rw [if_neg c2] at ha; exact deedF_adv i D a hi ha
      exact rowD_fuel hA f f' a.1 a.2 h3.2.1 (by omega) (by omega)
    · rw [if_neg c, if_neg c]
/-- what is opened: how many deeds lay before, how often they are told; the last first -/
abbrev wSk : Type := List (Nat × Nat)
noncomputable def restF (ty : Nat → Nat) (tn : Nat) : wSk → Nat → List Nat → wXR (List Nat)
  | [], i, D => bindR (rowD ty tn (againF ty tn 4) 401 i D) (fun q => if tkM ty tn 2 q.1 = 0 then (if q.2.length ≤ 60 then .ok q.2 else .error (4, q.1)) else .error (1, q.1))
  | (d0, n) :: St, i, D => bindR (rowD ty tn (againF ty tn (3 - St.length)) 401 i D) (fun q => needX ty tn 2 141 q.1 (fun i => restF ty tn St i (copyF (q.2.length - d0) ((q.2.length - d0) * (n - 1)) q.2)))
/-- the row's end, as what is opened has it -/
noncomputable def stopF (ty : Nat → Nat) (tn : Nat) : wSk → Nat × List Nat → wXR (List Nat)
  | [], q => if tkM ty tn 2 q.1 = 0 then (if q.2.length ≤ 60 then .ok q.2 else .error (4, q.1)) else .error (1, q.1)
  | (d0, n) :: St, q => needX ty tn 2 141 q.1 (fun i => restF ty tn St i (copyF (q.2.length - d0) ((q.2.length - d0) * (n - 1)) q.2))
theorem rest_row (Sk : wSk) (i : Nat) (D : List Nat) : restF ty tn Sk i D = bindR (rowD ty tn (againF ty tn (4 - Sk.length)) 401 i D) (stopF ty tn Sk) := by
  cases Sk with
  | nil => rfl
  | cons p St =>
    obtain ⟨d0, n⟩ := p
    show bindR _ _ = _
    rw [List.length_cons, show 4 - (St.length + 1) = 3 - St.length by omega]
    rfl
theorem rest_one {Sk : wSk} {i : Nat} {D : List Nat} (h400 : tn ≤ 400) (hi : i ≤ tn) (c : 10 ≤ tkM ty tn 2 i ∧ tkM ty tn 2 i ≤ 14) : restF ty tn Sk i D = bindR (if tkM ty tn 2 i = 14 then againF ty tn (4 - Sk.length) i D else deedF ty tn i D) (fun q => restF ty tn Sk q.1 q.2) := by
  rw [rest_row, rowD, if_pos c, bindR_assoc]
  refine bindR_congr (fun a ha => ?_)
  have h3 : i < a.1 ∧ a.1 ≤ tn ∧ D.length ≤ a.2.length := by
    by_cases c2 : tkM ty tn 2 i = 14
    · rw [if_pos c2] at ha; exact againF_adv _ i D a hi ha
    · rw [if_neg c2] at ha; exact deedF_adv i D a hi ha
  rw [rest_row, rowD_fuel (againF_adv _) 400 401 a.1 a.2 h3.2.1 (by omega) (by omega)]
theorem rest_deed {Sk : wSk} {i : Nat} {D : List Nat} (h400 : tn ≤ 400) (hi : i ≤ tn) (c : 10 ≤ tkM ty tn 2 i ∧ tkM ty tn 2 i ≤ 13) : restF ty tn Sk i D = bindR (deedF ty tn i D) (fun q => restF ty tn Sk q.1 q.2) := by
  rw [rest_one h400 hi (by omega), if_neg (by omega)]
theorem rest_open {Sk : wSk} {i : Nat} {D : List Nat} (h400 : tn ≤ 400) (hi : i ≤ tn) (c : tkM ty tn 2 i = 14) (hS : Sk.length < 4) : restF ty tn Sk i D = numX ty tn 1 9 (nextM ty tn i) (fun i n => needX ty tn 2 140 i (fun i => restF ty tn ((D.length, n) :: Sk) i D)) := by
  rw [rest_one h400 hi (by omega), if_pos c, show 4 - Sk.length = (3 - Sk.length) + 1 by omega, againF, bindR_num]
  refine numX_congr (fun _ _ _ => ?_)
  rw [bindR_need]
  refine needX_congr (fun _ => ?_)
  rw [bindR_assoc]
  show _ = bindR _ _
  refine bindR_congr (fun a ha => ?_)
  rw [bindR_need]
  rfl
theorem rest_deep {Sk : wSk} {i : Nat} {D : List Nat} (h400 : tn ≤ 400) (hi : i ≤ tn) (c : tkM ty tn 2 i = 14) (hS : Sk.length = 4) : restF ty tn Sk i D = .error (3, i) := by
  rw [rest_one h400 hi (by omega), if_pos c, hS]
  rfl
theorem rest_stop {Sk : wSk} {i : Nat} {D : List Nat} (c : ¬ (10 ≤ tkM ty tn 2 i ∧ tkM ty tn 2 i ≤ 14)) : restF ty tn Sk i D = stopF ty tn Sk (i, D) := by
  rw [rest_row, rowD, if_neg c]
  rfl
end EM
