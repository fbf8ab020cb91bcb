/-! THE LAW'S GRAMMAR: what its steps leave -/
theorem tyM_app : ∀ (X Y : List (Nat × Nat)) (T : List Bool), tyM (X ++ Y) T = (tyM X T).bind (tyM Y)
  | [], Y, T => rfl
  | q :: X, Y, T => by
    show (tystM q.1 q.2 T).bind (tyM (X ++ Y)) = ((tystM q.1 q.2 T).bind (tyM X)).bind (tyM Y)
    cases tystM q.1 q.2 T with
    | none => rfl
    | some T' => exact tyM_app X Y T'
theorem tyM_one (q : Nat × Nat) (T : List Bool) : tyM [q] T = tystM q.1 q.2 T := by
  show (tystM q.1 q.2 T).bind (tyM []) = _
  cases tystM q.1 q.2 T <;> rfl
/-- a piece lays steps that leave one more -/
def ExtX (B : Nat) (b : Bool) (L : List (Nat × Nat)) (x : wXE) : Prop := ∀ i' L', x = .ok (i', L') → ∃ X, L' = L ++ X ∧ ∀ T : List Bool, T.length ≤ B → tyM X T = some (b :: T)
/-- a piece lays steps that leave as many -/
def ExtW (B : Nat) (b : Bool) (L : List (Nat × Nat)) (x : wXE) : Prop := ∀ i' L', x = .ok (i', L') → ∃ X, L' = L ++ X ∧ ∀ T : List Bool, T.length ≤ B → tyM X (b :: T) = some (b :: T)
theorem ExtW.nil {B : Nat} {b : Bool} {L : List (Nat × Nat)} {i : Nat} : ExtW B b L (.ok (i, L)) := fun i' L' h => by
  cases h
  exact ⟨[], (List.append_nil L).symm, fun T _ => rfl⟩
section LT
variable {ty : Nat → Nat} {tn : Nat}
theorem unitF_ext {i : Nat} {L : List (Nat × Nat)} : ExtX 59 false L (unitF ty tn i L) := by
  intro i' L' h
  unfold unitF at h
  by_cases c : unitT 1 (kindM ty tn i) = true
  · rw [if_pos c] at h
    cases h
    refine ⟨_, rfl, fun T hT => ?_⟩
    rw [tyM_one]
    have hu := unitT_1.mp c
    unfold tystM
    rw [if_pos (by omega), if_pos]
    refine ⟨by omega, ?_, by omega⟩
    by_cases q : tkM ty tn 1 i = 2
    · rw [if_pos q]
      exact numK_le (ck_200.mp ((tk_iff 1 2 200 (by decide)).mp q))
    · rw [if_neg q]; omega
  · rw [if_neg c] at h; cases h
theorem partF_ext {i : Nat} {L : List (Nat × Nat)} : ExtW 50 false L (partF ty tn i L) := by
  intro i' L' h
  unfold partF at h
  by_cases c : tkM ty tn 1 i = 2
  · rw [if_pos c] at h
    by_cases c2 : numM ty tn i = 0
    · rw [if_pos c2] at h; cases h
    · rw [if_neg c2] at h
      cases h
      refine ⟨_, rfl, fun T hT => ?_⟩
      rw [tyM_one]
      have hn := numK_le (ck_200.mp ((tk_iff 1 2 200 (by decide)).mp c))
      unfold tystM
      rw [if_neg (by omega), if_pos rfl]
      show (if _ then _ else _) = _
      rw [if_pos (by omega)]
  · rw [if_neg c] at h; cases h
theorem ty_two {k : Nat} {T : List Bool} (h : k = 23 ∨ k = 24 ∨ k = 25) : tyM [(k, 0)] (false :: false :: T) = some (false :: T) := by
  rw [tyM_one]
  unfold tystM
  rw [if_neg (by omega), if_neg (by omega), if_neg (by omega), if_neg (by omega)]
  show (if _ then _ else _) = _
  rw [if_pos h]
theorem ty_cmp {k : Nat} {T : List Bool} (h : k = 27 ∨ k = 28 ∨ k = 29) : tyM [(k, 0)] (false :: false :: T) = some (true :: T) := by
  rw [tyM_one]
  unfold tystM
  rw [if_neg (by omega), if_neg (by omega), if_neg (by omega), if_neg (by omega)]
  show (if _ then _ else _) = _
  rw [if_neg (by omega), if_pos h]
theorem ty_join {k : Nat} {T : List Bool} (h : k = 31 ∨ k = 32) : tyM [(k, 0)] (true :: true :: T) = some (true :: T) := by
  rw [tyM_one]
  unfold tystM
  rw [if_neg (by omega), if_neg (by omega), if_neg (by omega), if_pos h]
theorem ty_not {T : List Bool} : tyM [(30, 0)] (true :: T) = some (true :: T) := by
  rw [tyM_one]
  unfold tystM
  rw [if_neg (by omega), if_neg (by omega), if_pos rfl]
theorem timesF_ext : ∀ (f i : Nat) (L : List (Nat × Nat)), ExtW 50 false L (timesF ty tn f i L)
  | 0, i, L => ExtW.nil
  | f + 1, i, L => by
    rw [timesF]
    by_cases c : tkM ty tn 1 i = 142
    · rw [if_pos c]
      intro i' L' h
      obtain ⟨i1, L1, h1, h2⟩ := bind_ok h
      obtain ⟨X1, rfl, t1⟩ := unitF_ext _ _ h1
      obtain ⟨X2, rfl, t2⟩ := timesF_ext f i1 _ _ _ h2
      refine ⟨X1 ++ ([(25, 0)] ++ X2), by simp only [List.append_assoc], fun T hT => ?_⟩
      rw [tyM_app, t1 _ (by rw [List.length_cons]; omega)]
      show tyM ([(25, 0)] ++ X2) (false :: false :: T) = _
      rw [tyM_app, ty_two (by omega)]
      exact t2 T hT
    · rw [if_neg c]
      by_cases c2 : tkM ty tn 1 i = 147
      · rw [if_pos c2]
        intro i' L' h
        obtain ⟨i1, L1, h1, h2⟩ := bind_ok h
        obtain ⟨X1, rfl, t1⟩ := partF_ext _ _ h1
        obtain ⟨X2, rfl, t2⟩ := timesF_ext f i1 _ _ _ h2
        refine ⟨X1 ++ X2, List.append_assoc _ _ _, fun T hT => ?_⟩
        rw [tyM_app, t1 _ hT]
        exact t2 T hT
      · rw [if_neg c2]
        exact ExtW.nil
theorem prodF_ext {i : Nat} {L : List (Nat × Nat)} : ExtX 50 false L (prodF ty tn i L) := by
  intro i' L' h
  obtain ⟨i1, L1, h1, h2⟩ := bind_ok h
  obtain ⟨X1, rfl, t1⟩ := unitF_ext _ _ h1
  obtain ⟨X2, rfl, t2⟩ := timesF_ext _ i1 _ _ _ h2
  refine ⟨X1 ++ X2, List.append_assoc _ _ _, fun T hT => ?_⟩
  rw [tyM_app, t1 _ (by omega)]
  exact t2 T hT
theorem addF_ext : ∀ (f i : Nat) (L : List (Nat × Nat)), ExtW 49 false L (addF ty tn f i L)
  | 0, i, L => ExtW.nil
  | f + 1, i, L => by
    rw [addF]
    by_cases c : tkM ty tn 1 i = 143 ∨ tkM ty tn 1 i = 145
    · rw [if_pos c]
      intro i' L' h
      obtain ⟨i1, L1, h1, h2⟩ := bind_ok h
      obtain ⟨X1, rfl, t1⟩ := prodF_ext _ _ h1
      obtain ⟨X2, rfl, t2⟩ := addF_ext f i1 _ _ _ h2
      refine ⟨X1 ++ ([(if tkM ty tn 1 i = 143 then 23 else 24, 0)] ++ X2), by simp only [List.append_assoc], fun T hT => ?_⟩
      rw [tyM_app, t1 _ (by rw [List.length_cons]; omega)]
      show tyM ([_] ++ X2) (false :: false :: T) = _
      rw [tyM_app, ty_two (by split <;> omega)]
      exact t2 T hT
    · rw [if_neg c]
      exact ExtW.nil
theorem sumF_ext {i : Nat} {L : List (Nat × Nat)} : ExtX 49 false L (sumF ty tn i L) := by
  intro i' L' h
  obtain ⟨i1, L1, h1, h2⟩ := bind_ok h
  obtain ⟨X1, rfl, t1⟩ := prodF_ext _ _ h1
  obtain ⟨X2, rfl, t2⟩ := addF_ext _ i1 _ _ _ h2
  refine ⟨X1 ++ X2, List.append_assoc _ _ _, fun T hT => ?_⟩
  rw [tyM_app, t1 _ (by omega)]
  exact t2 T hT
theorem cmpF_ext {i : Nat} {L : List (Nat × Nat)} : ExtX 48 true L (cmpF ty tn i L) := by
  intro i' L' h
  obtain ⟨i1, L1, h1, h2⟩ := bind_ok h
  obtain ⟨X1, rfl, t1⟩ := sumF_ext _ _ h1
  by_cases c : tkM ty tn 1 i1 = 160 ∨ tkM ty tn 1 i1 = 161 ∨ tkM ty tn 1 i1 = 162
  · rw [if_pos c] at h2
    obtain ⟨i2, L2, h3, h4⟩ := bind_ok h2
    obtain ⟨X2, rfl, t2⟩ := sumF_ext _ _ h3
    cases h4
    refine ⟨X1 ++ (X2 ++ [(tkM ty tn 1 i1 - 133, 0)]), by simp only [List.append_assoc], fun T hT => ?_⟩
    rw [tyM_app, t1 _ (by omega)]
    show tyM (X2 ++ [_]) (false :: T) = _
    rw [tyM_app, t2 _ (by rw [List.length_cons]; omega)]
    have hk : tkM ty tn 1 i1 - 133 = 27 ∨ tkM ty tn 1 i1 - 133 = 28 ∨ tkM ty tn 1 i1 - 133 = 29 := by omega
    generalize tkM ty tn 1 i1 - 133 = k at hk
    show tyM [(k, 0)] (false :: false :: T) = _
    exact ty_cmp hk
  · rw [if_neg c] at h2; cases h2
theorem rowF_ext {C : Nat → List (Nat × Nat) → wXE} {B w k : Nat} (hC : ∀ i L, ExtX (B + 1) true L (C i L)) (hk : k = 31 ∨ k = 32) : ∀ (f i : Nat) (L : List (Nat × Nat)), ExtW B true L (rowF ty tn C w k f i L)
  | 0, i, L => ExtW.nil
  | f + 1, i, L => by
    rw [rowF]
    by_cases c : tkM ty tn 1 i = w
    · rw [if_pos c]
      intro i' L' h
      obtain ⟨i1, L1, h1, h2⟩ := bind_ok h
      obtain ⟨X1, rfl, t1⟩ := hC _ _ _ _ h1
      obtain ⟨X2, rfl, t2⟩ := rowF_ext hC hk f i1 _ _ _ h2
      refine ⟨X1 ++ ([(k, 0)] ++ X2), by simp only [List.append_assoc], fun T hT => ?_⟩
      rw [tyM_app, t1 _ (by rw [List.length_cons]; omega)]
      show tyM ([_] ++ X2) (true :: true :: T) = _
      rw [tyM_app, ty_join hk]
      exact t2 T hT
    · rw [if_neg c]
      exact ExtW.nil
theorem everyF_ext {C : Nat → List (Nat × Nat) → wXE} {B : Nat} (hC : ∀ i L, ExtX (B + 1) true L (C i L)) (i : Nat) (L : List (Nat × Nat)) : ExtX B true L (everyF ty tn C i L) := by
  intro i' L' h
  obtain ⟨i1, L1, h1, h2⟩ := bind_ok h
  obtain ⟨X1, rfl, t1⟩ := hC _ _ _ _ h1
  obtain ⟨X2, rfl, t2⟩ := rowF_ext hC (Or.inl rfl) _ i1 _ _ _ h2
  refine ⟨X1 ++ X2, List.append_assoc _ _ _, fun T hT => ?_⟩
  rw [tyM_app, t1 _ (by omega)]
  exact t2 T hT
theorem anyF_ext {C : Nat → List (Nat × Nat) → wXE} {B : Nat} (hC : ∀ i L, ExtX (B + 2) true L (C i L)) (i : Nat) (L : List (Nat × Nat)) : ExtX B true L (anyF ty tn C i L) := by
  intro i' L' h
  obtain ⟨i1, L1, h1, h2⟩ := bind_ok h
  obtain ⟨X1, rfl, t1⟩ := everyF_ext (B := B + 1) hC _ _ _ _ h1
  obtain ⟨X2, rfl, t2⟩ := rowF_ext (B := B) (everyF_ext (B := B + 1) hC) (Or.inr rfl) _ i1 _ _ _ h2
  refine ⟨X1 ++ X2, List.append_assoc _ _ _, fun T hT => ?_⟩
  rw [tyM_app, t1 _ (by omega)]
  exact t2 T hT
theorem ExtX.le {B B' : Nat} {b : Bool} {L : List (Nat × Nat)} {x : wXE} (h : ExtX B b L x) (hB : B' ≤ B) : ExtX B' b L x := fun i' L' e => by
  obtain ⟨X, e1, e2⟩ := h i' L' e
  exact ⟨X, e1, fun T hT => e2 T (by omega)⟩
theorem testF_ext : ∀ (g i : Nat) (L : List (Nat × Nat)), g ≤ 8 → ExtX (40 - 2 * g) true L (testF ty tn g i L)
  | 0, i, L, _ => fun i' L' h => by
    rw [testF] at h
    by_cases c : tkM ty tn 1 i = 6 ∨ tkM ty tn 1 i = 140
    · rw [if_pos c] at h; cases h
    · rw [if_neg c] at h
      exact (cmpF_ext.le (by omega)) _ _ h
  | g + 1, i, L, hg => fun i' L' h => by
    rw [testF] at h
    by_cases c : tkM ty tn 1 i = 6
    · rw [if_pos c] at h
      obtain ⟨i1, L1, h1, h2⟩ := bind_ok h
      obtain ⟨X1, rfl, t1⟩ := testF_ext g _ _ (by omega) _ _ h1
      cases h2
      refine ⟨X1 ++ [(30, 0)], List.append_assoc _ _ _, fun T hT => ?_⟩
      rw [tyM_app, t1 _ (by omega)]
      exact ty_not
    · rw [if_neg c] at h
      by_cases c2 : tkM ty tn 1 i = 140
      · rw [if_pos c2] at h
        obtain ⟨i1, L1, h1, h2⟩ := bind_ok h
        obtain ⟨X1, rfl, t1⟩ := anyF_ext (B := 40 - 2 * (g + 1)) (fun i L => by
          rw [show 40 - 2 * (g + 1) + 2 = 40 - 2 * g by omega]
          exact testF_ext g i L (by omega)) _ _ _ _ h1
        by_cases c3 : tkM ty tn 1 i1 = 141
        · rw [if_pos c3] at h2
          cases h2
          exact ⟨X1, rfl, t1⟩
        · rw [if_neg c3] at h2; cases h2
      · rw [if_neg c2] at h
        exact (cmpF_ext.le (by omega)) _ _ h
theorem any8_ext (i : Nat) (L : List (Nat × Nat)) : ExtX 0 true L (anyF ty tn (testF ty tn 8) i L) := anyF_ext (B := 0) (fun i L => (testF_ext 8 i L (by omega)).le (by omega)) i L
end LT
