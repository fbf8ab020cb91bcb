/-! THE TAPE'S GRAMMAR, row by row -/
section TM
variable {ty : Nat → Nat} {tn : Nat}
noncomputable def songX {α : Type} (ty : Nat → Nat) (tn side i : Nat) (s : wTs) (f : Nat → wTs → wXR α) : wXR α := numX ty tn 1 60 (nextM ty tn i) (fun i n => needX ty tn 0 8 i (fun i => numX ty tn 0 99 i (fun i w => f i (tapC s side n s.2.1.length (s.2.1 ++ [(side, s.2.2.1 side, n, w)])))))
noncomputable def gapX {α : Type} (ty : Nat → Nat) (tn side i : Nat) (s : wTs) (f : Nat → wTs → wXR α) : wXR α := numX ty tn 1 60 (nextM ty tn i) (fun i n => f i (tapC s side n 98 s.2.1))
theorem songF_adv {side i : Nat} {s : wTs} {q : Nat × wTs} (hi : i ≤ tn) (h : songF ty tn side i s = .ok q) : i < q.1 ∧ q.1 ≤ tn := by
  unfold songF at h
  obtain ⟨_, _, h3, h4⟩ := numX_ok h
  obtain ⟨_, h6⟩ := needX_ok h4
  obtain ⟨_, _, h7, h8⟩ := numX_ok h6
  obtain ⟨_, h10⟩ := needX_ok h8
  cases h10
  have a1 := (next_in (ty := ty) hi).1
  have a2 := next_gt (ty := ty) (kd_lt h3)
  have a3 := next_in (ty := ty) (Nat.le_of_lt (kd_lt h3))
  have a4 := next_in (ty := ty) a3.2
  have a5 := next_in (ty := ty) a4.2
  have a6 := next_in (ty := ty) a5.2
  exact ⟨by show i < nextM ty tn _; omega, a6.2⟩
theorem gapF_adv {side i : Nat} {s : wTs} {q : Nat × wTs} (hi : i ≤ tn) (h : gapF ty tn side i s = .ok q) : i < q.1 ∧ q.1 ≤ tn := by
  unfold gapF at h
  obtain ⟨_, _, h3, h4⟩ := numX_ok h
  obtain ⟨_, h6⟩ := needX_ok h4
  cases h6
  have a1 := (next_in (ty := ty) hi).1
  have a2 := next_gt (ty := ty) (kd_lt h3)
  have a3 := next_in (ty := ty) (Nat.le_of_lt (kd_lt h3))
  have a4 := next_in (ty := ty) a3.2
  exact ⟨by show i < nextM ty tn _; omega, a4.2⟩
theorem sideF_fuel {side : Nat} : ∀ (f f' i : Nat) (s : wTs), i ≤ tn → tn - i < f → tn - i < f' → sideF ty tn side f i s = sideF ty tn side f' i s
  | 0, _, i, s, _, h, _ => by omega
  | f + 1, 0, i, s, _, _, h => by omega
  | f + 1, f' + 1, i, s, hi, h1, h2 => by
    rw [sideF, sideF]
    split
    · split
      · rfl
      · refine bindR_congr (fun a ha => ?_)
        have h3 : i < a.1 ∧ a.1 ≤ tn := by
          by_cases c2 : tkM ty tn 0 i = 7
          · rw [if_pos c2] at ha; exact songF_adv hi ha
          · rw [if_neg c2] at ha; exact gapF_adv hi ha
        exact sideF_fuel f f' a.1 _ h3.2 (by omega) (by omega)
    · rfl
noncomputable def finT (ty : Nat → Nat) (tn : Nat) (q : Nat × wTs) : wXR wTs := if tkM ty tn 0 q.1 = 0 then (if q.2.2.2.1 0 ≤ 200 ∧ q.2.2.2.1 1 ≤ 200 then .ok q.2 else .error (4, q.1)) else .error (1, q.1)
noncomputable def endT (ty : Nat → Nat) (tn side : Nat) (q : Nat × wTs) : wXR wTs := if side = 0 then bindR (turnF ty tn q) (finT ty tn) else finT ty tn q
noncomputable def restT (ty : Nat → Nat) (tn side i : Nat) (s : wTs) : wXR wTs := bindR (sideF ty tn side 401 i s) (endT ty tn side)
theorem tape_rest {i : Nat} : tapeF ty tn i = restT ty tn 0 i (0, [], fun _ => 0, fun _ => 98) := rfl
theorem restT_full {side i : Nat} {s : wTs} (c : tkM ty tn 0 i = 7 ∨ tkM ty tn 0 i = 9) (h : s.1 = 20 ∨ (tkM ty tn 0 i = 7 ∧ s.2.1.length = 14)) : restT ty tn side i s = .error (3, i) := by
  unfold restT
  rw [sideF, if_pos c, if_pos h]
  rfl
theorem restT_one {side i : Nat} {s : wTs} (h400 : tn ≤ 400) (hi : i ≤ tn) (c : tkM ty tn 0 i = 7 ∨ tkM ty tn 0 i = 9) (h : ¬ (s.1 = 20 ∨ (tkM ty tn 0 i = 7 ∧ s.2.1.length = 14))) : restT ty tn side i s = bindR (if tkM ty tn 0 i = 7 then songF ty tn side i s else gapF ty tn side i s) (fun q => restT ty tn side q.1 (q.2.1 + 1, q.2.2)) := by
  unfold restT
  rw [sideF, if_pos c, if_neg h, bindR_assoc]
  refine bindR_congr (fun a ha => ?_)
  have h3 : i < a.1 ∧ a.1 ≤ tn := by
    by_cases c2 : tkM ty tn 0 i = 7
    · rw [if_pos c2] at ha; exact songF_adv hi ha
    · rw [if_neg c2] at ha; exact gapF_adv hi ha
  rw [sideF_fuel 400 401 a.1 _ h3.2 (by omega) (by omega)]
theorem restT_song {side i : Nat} {s : wTs} (h400 : tn ≤ 400) (hi : i ≤ tn) (c : tkM ty tn 0 i = 7) (h : ¬ (s.1 = 20 ∨ s.2.1.length = 14)) : restT ty tn side i s = songX ty tn side i s (fun i s' => needX ty tn 0 159 i (fun i => restT ty tn side i (s'.1 + 1, s'.2))) := by
  rw [restT_one h400 hi (Or.inl c) (fun q => h (by omega)), if_pos c]
  unfold songF songX
  rw [bindR_num]
  refine numX_congr (fun _ _ _ => ?_)
  rw [bindR_need]
  refine needX_congr (fun _ => ?_)
  rw [bindR_num]
  refine numX_congr (fun _ _ _ => ?_)
  rw [bindR_need]
  rfl
theorem restT_gap {side i : Nat} {s : wTs} (h400 : tn ≤ 400) (hi : i ≤ tn) (c : tkM ty tn 0 i = 9) (h : ¬ s.1 = 20) : restT ty tn side i s = gapX ty tn side i s (fun i s' => needX ty tn 0 159 i (fun i => restT ty tn side i (s'.1 + 1, s'.2))) := by
  rw [restT_one h400 hi (Or.inr c) (fun q => h (by omega)), if_neg (by omega)]
  unfold gapF gapX
  rw [bindR_num]
  refine numX_congr (fun _ _ _ => ?_)
  rw [bindR_need]
  rfl
theorem restT_end {side i : Nat} {s : wTs} (c : ¬ (tkM ty tn 0 i = 7 ∨ tkM ty tn 0 i = 9)) : restT ty tn side i s = endT ty tn side (i, s) := by
  unfold restT
  rw [sideF, if_neg c]
  rfl
theorem restT_turn {i : Nat} {s : wTs} (c : tkM ty tn 0 i = 10) : restT ty tn 0 i s = needX ty tn 0 159 (nextM ty tn i) (fun i => restT ty tn 1 i s) := by
  rw [restT_end (by omega)]
  unfold endT turnF
  rw [if_pos rfl, if_pos c, bindR_need]
  refine needX_congr (fun _ => ?_)
  unfold restT
  refine bindR_congr (fun a _ => ?_)
  unfold endT
  rw [if_neg (by omega)]
theorem restT_fin {side i : Nat} {s : wTs} (c : ¬ (tkM ty tn 0 i = 7 ∨ tkM ty tn 0 i = 9)) (h : side = 0 → ¬ tkM ty tn 0 i = 10) : restT ty tn side i s = finT ty tn (i, s) := by
  rw [restT_end c]
  unfold endT
  by_cases q : side = 0
  · rw [if_pos q]
    unfold turnF
    rw [if_neg (h q)]
    rfl
  · rw [if_neg q]
end TM
/-! what is read of a tape -/
/-- the song at p, the last that lies there -/
def hrdS (S : List wSo) (sd p : Nat) : Nat → Nat
  | 0 => 98
  | n + 1 => if (S.getD n (0, 0, 0, 0)).1 = sd ∧ (S.getD n (0, 0, 0, 0)).2.1 ≤ p ∧ p < (S.getD n (0, 0, 0, 0)).2.1 + (S.getD n (0, 0, 0, 0)).2.2.1 then n else hrdS S sd p n
theorem hrdS_snoc (S : List wSo) (q : wSo) (sd p : Nat) : ∀ n, n ≤ S.length → hrdS (S ++ [q]) sd p n = hrdS S sd p n
  | 0, _ => rfl
  | n + 1, h => by
    rw [hrdS, hrdS, getD_so_l (by omega), hrdS_snoc S q sd p n (by omega)]
theorem hrdS_lt (S : List wSo) (sd p : Nat) : ∀ n, hrdS S sd p n < n ∨ hrdS S sd p n = 98
  | 0 => Or.inr rfl
  | n + 1 => by
    rw [hrdS]
    split
    · left; omega
    · have := hrdS_lt S sd p n
      omega
/-- a song as it can be read -/
def SoOK (c : Nat → Nat) (q : wSo) : Prop := q.1 ≤ 1 ∧ q.2.1 + q.2.2.1 ≤ c q.1 ∧ 1 ≤ q.2.2.1 ∧ q.2.2.1 ≤ 60 ∧ q.2.2.2 ≤ 99
def TsI (side : Nat) (s : wTs) : Prop := s.1 ≤ 20 ∧ s.2.1.length ≤ 14 ∧ (s.2.2.1 0 ≤ 60 * s.1 ∧ s.2.2.1 1 ≤ 60 * s.1) ∧ (∀ k, k < s.2.1.length → SoOK s.2.2.1 (s.2.1.getD k (0, 0, 0, 0))) ∧ ∀ sd p, sd ≤ 1 → p < 200 → s.2.2.2 (201 * sd + p) = hrdS s.2.1 sd p s.2.1.length
theorem hrdS_far {c : Nat → Nat} {S : List wSo} {sd p : Nat} (hp : c sd ≤ p) : ∀ n, (∀ k, k < n → SoOK c (S.getD k (0, 0, 0, 0))) → hrdS S sd p n = 98
  | 0, _ => rfl
  | n + 1, h => by
    rw [hrdS]
    obtain ⟨h1, h2, h3, h4, h5⟩ := h n (by omega)
    rw [if_neg, hrdS_far hp n (fun k hk => h k (by omega))]
    rintro ⟨q1, q2, q3⟩
    rw [q1] at h2
    omega
theorem addC_at (c : Nat → Nat) (side n j : Nat) : addC c side n j = if j = side then c j + n else c j := rfl
theorem SoOK.add {c : Nat → Nat} {q : wSo} (h : SoOK c q) (side n : Nat) : SoOK (addC c side n) q := by
  obtain ⟨h1, h2, h3⟩ := h
  refine ⟨h1, ?_, h3⟩
  rw [addC_at]
  split <;> omega
theorem lieF_at {h : Nat → Nat} {side c n v sd p : Nat} (hs : side ≤ 1) (hsd : sd ≤ 1) (hp : p < 200) : lieF h side c n v (201 * sd + p) = if side = sd ∧ c ≤ p ∧ p < c + n then v else h (201 * sd + p) := by
  unfold lieF
  by_cases q : side = sd ∧ c ≤ p ∧ p < c + n
  · rw [if_pos q, if_pos (by obtain ⟨rfl, q2, q3⟩ := q; omega)]
  · rw [if_neg q, if_neg]
    intro g
    apply q
    obtain rfl | rfl : side = 0 ∨ side = 1 := by omega
    · obtain rfl | rfl : sd = 0 ∨ sd = 1 := by omega
      · omega
      · omega
    · obtain rfl | rfl : sd = 0 ∨ sd = 1 := by omega
      · omega
      · omega
theorem TsI.song {side : Nat} {s : wTs} (h : TsI side s) (hs : side ≤ 1) {n w : Nat} (hn : 1 ≤ n ∧ n ≤ 60) (hw : w ≤ 99) (h20 : s.1 < 20) (h14 : s.2.1.length < 14) {s' : wTs} (e : s' = tapC s side n s.2.1.length (s.2.1 ++ [(side, s.2.2.1 side, n, w)])) : TsI side (s'.1 + 1, s'.2) := by
  subst e
  obtain ⟨h1, h2, ⟨h3, h3'⟩, h4, h5⟩ := h
  refine ⟨by show s.1 + 1 ≤ 20; omega, by show (s.2.1 ++ [_]).length ≤ 14; rw [List.length_append, List.length_singleton]; omega, ⟨?_, ?_⟩, fun k hk => ?_, fun sd p hsd hp => ?_⟩
  · show addC s.2.2.1 side n 0 ≤ 60 * (s.1 + 1)
    rw [addC_at]
    split <;> omega
  · show addC s.2.2.1 side n 1 ≤ 60 * (s.1 + 1)
    rw [addC_at]
    split <;> omega
  · change k < (s.2.1 ++ [(side, s.2.2.1 side, n, w)]).length at hk
    rw [List.length_append, List.length_singleton] at hk
    show SoOK (addC s.2.2.1 side n) ((s.2.1 ++ [(side, s.2.2.1 side, n, w)]).getD k (0, 0, 0, 0))
    by_cases q : k = s.2.1.length
    · rw [q, getD_so_r]
      refine ⟨hs, ?_, hn.1, hn.2, hw⟩
      show s.2.2.1 side + n ≤ addC s.2.2.1 side n side
      rw [addC_at, if_pos rfl]
      omega
    · rw [getD_so_l (by omega)]
      exact (h4 k (by omega)).add side n
  · show lieF s.2.2.2 side (s.2.2.1 side) n s.2.1.length (201 * sd + p) = hrdS (s.2.1 ++ [_]) sd p (s.2.1 ++ [_]).length
    rw [lieF_at hs hsd hp, List.length_append, List.length_singleton, hrdS, getD_so_r, hrdS_snoc _ _ _ _ _ (Nat.le_refl _), h5 sd p hsd hp]
theorem TsI.gap {side : Nat} {s : wTs} (h : TsI side s) (hs : side ≤ 1) {n : Nat} (hn : 1 ≤ n ∧ n ≤ 60) (h20 : s.1 < 20) {s' : wTs} (e : s' = tapC s side n 98 s.2.1) : TsI side (s'.1 + 1, s'.2) := by
  subst e
  obtain ⟨h1, h2, ⟨h3, h3'⟩, h4, h5⟩ := h
  refine ⟨by show s.1 + 1 ≤ 20; omega, h2, ⟨?_, ?_⟩, fun k hk => (h4 k hk).add side n, fun sd p hsd hp => ?_⟩
  · show addC s.2.2.1 side n 0 ≤ 60 * (s.1 + 1)
    rw [addC_at]
    split <;> omega
  · show addC s.2.2.1 side n 1 ≤ 60 * (s.1 + 1)
    rw [addC_at]
    split <;> omega
  · show lieF s.2.2.2 side (s.2.2.1 side) n 98 (201 * sd + p) = hrdS s.2.1 sd p s.2.1.length
    rw [lieF_at hs hsd hp]
    split
    · rename_i q
      obtain ⟨rfl, q2, q3⟩ := q
      exact (hrdS_far q2 _ h4).symm
    · exact h5 sd p hsd hp
/-- songs ahead are on the first side, the others on the second -/
def AheadS (a : Nat) (S : List wSo) : Prop := a ≤ S.length ∧ ∀ k, k < S.length → (S.getD k (0, 0, 0, 0)).1 = if k < a then 0 else 1
