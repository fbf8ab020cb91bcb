/-! THE LAW'S GRAMMAR, flat -/
theorem bindX_assoc (x : wXE) (f g : Nat → List (Nat × Nat) → wXE) : bindX (bindX x f) g = bindX x (fun i L => bindX (f i L) g) := by
  cases x <;> rfl
theorem bindX_congr {x : wXE} {f g : Nat → List (Nat × Nat) → wXE} (h : ∀ i L, x = .ok (i, L) → f i L = g i L) : bindX x f = bindX x g := by
  cases x with
  | ok q => exact h q.1 q.2 rfl
  | error q => rfl
section LM
variable {ty : Nat → Nat} {tn : Nat}
theorem timesF_fuel : ∀ (f f' i : Nat) (L : List (Nat × Nat)), i ≤ tn → tn - i < f → tn - i < f' → timesF ty tn f i L = timesF ty tn f' i L
  | 0, _, i, L, _, h, _ => by omega
  | f + 1, 0, i, L, _, _, h => by omega
  | f + 1, f' + 1, i, L, hi, h1, h2 => by
    rw [timesF, timesF]
    by_cases c : tkM ty tn 1 i = 142
    · rw [if_pos c, if_pos c]
      have hn := tk_next (ty := ty) (tn := tn) (mode := 1) (i := i) (by omega) hi
      refine bindX_congr (fun j M h => ?_)
      have a := unitF_adv hn.2 _ _ h
      exact timesF_fuel f f' j _ a.1 (by omega) (by omega)
    · rw [if_neg c, if_neg c]
      by_cases c2 : tkM ty tn 1 i = 147
      · rw [if_pos c2, if_pos c2]
        have hn := tk_next (ty := ty) (tn := tn) (mode := 1) (i := i) (by omega) hi
        refine bindX_congr (fun j M h => ?_)
        have a := partF_adv hn.2 _ _ h
        exact timesF_fuel f f' j _ a.1 (by omega) (by omega)
      · rw [if_neg c2, if_neg c2]
theorem addF_fuel : ∀ (f f' i : Nat) (L : List (Nat × Nat)), i ≤ tn → tn - i < f → tn - i < f' → addF ty tn f i L = addF ty tn f' i L
  | 0, _, i, L, _, h, _ => by omega
  | f + 1, 0, i, L, _, _, h => by omega
  | f + 1, f' + 1, i, L, hi, h1, h2 => by
    rw [addF, addF]
    by_cases c : tkM ty tn 1 i = 143 ∨ tkM ty tn 1 i = 145
    · rw [if_pos c, if_pos c]
      have hn := tk_next (ty := ty) (tn := tn) (mode := 1) (i := i) (by omega) hi
      refine bindX_congr (fun j M h => ?_)
      have a := prodF_adv hn.2 _ _ h
      exact addF_fuel f f' j _ a.1 (by omega) (by omega)
    · rw [if_neg c, if_neg c]
theorem rowF_fuel {C : Nat → List (Nat × Nat) → wXE} (hC : ∀ i L, i ≤ tn → AdvX tn i L.length (C i L)) {w k : Nat} (hw : w ≠ 0) : ∀ (f f' i : Nat) (L : List (Nat × Nat)), i ≤ tn → tn - i < f → tn - i < f' → rowF ty tn C w k f i L = rowF ty tn C w k f' i L
  | 0, _, i, L, _, h, _ => by omega
  | f + 1, 0, i, L, _, _, h => by omega
  | f + 1, f' + 1, i, L, hi, h1, h2 => by
    rw [rowF, rowF]
    by_cases c : tkM ty tn 1 i = w
    · rw [if_pos c, if_pos c]
      have hn := tk_next (ty := ty) (tn := tn) (mode := 1) (i := i) (by omega) hi
      refine bindX_congr (fun j M h => ?_)
      have a := hC _ _ hn.2 _ _ h
      exact rowF_fuel hC hw f f' j _ a.1 (by omega) (by omega)
    · rw [if_neg c, if_neg c]
/-- a unit, with what joins it to those before -/
noncomputable def unX (ty : Nat → Nat) (tn t i : Nat) (L : List (Nat × Nat)) : wXE := if t = 47 then partF ty tn i L else bindX (unitF ty tn i L) (fun i L => .ok (i, if t = 42 then L ++ [(25, 0)] else L))
def plL (p : Nat) : List (Nat × Nat) := if p = 43 then [(23, 0)] else if p = 45 then [(24, 0)] else []
noncomputable def stepS (ty : Nat → Nat) (tn p i : Nat) (L : List (Nat × Nat)) : wXE := bindX (timesF ty tn 401 i L) (fun i L => addF ty tn 401 i (L ++ plL p))
noncomputable def restS (ty : Nat → Nat) (tn t p i : Nat) (L : List (Nat × Nat)) : wXE := bindX (unX ty tn t i L) (stepS ty tn p)
theorem sum_rest (i : Nat) (L : List (Nat × Nat)) : sumF ty tn i L = restS ty tn 0 0 i L := by
  unfold sumF prodF restS unX stepS plL
  rw [if_neg (by omega), bindX_assoc, bindX_assoc]
  refine bindX_congr (fun j M h => ?_)
  rw [if_neg (by omega), if_neg (by omega), if_neg (by omega)]
  show _ = bindX _ _
  refine bindX_congr (fun j M h => ?_)
  rw [List.append_nil]
theorem stepS_42 {p i : Nat} {L : List (Nat × Nat)} (h400 : tn ≤ 400) (hi : i ≤ tn) (c : tkM ty tn 1 i = 142) : stepS ty tn p i L = restS ty tn 42 p (nextM ty tn i) L := by
  unfold stepS restS unX
  rw [timesF, if_pos c, if_neg (by omega), bindX_assoc, bindX_assoc]
  have hn := tk_next (ty := ty) (tn := tn) (mode := 1) (i := i) (by omega) hi
  refine bindX_congr (fun j M h => ?_)
  have a := unitF_adv hn.2 _ _ h
  rw [if_pos rfl, timesF_fuel 400 401 j _ a.1 (by omega) (by omega)]
  rfl
theorem stepS_47 {p i : Nat} {L : List (Nat × Nat)} (h400 : tn ≤ 400) (hi : i ≤ tn) (c : tkM ty tn 1 i = 147) : stepS ty tn p i L = restS ty tn 47 p (nextM ty tn i) L := by
  unfold stepS restS unX
  rw [timesF, if_neg (by omega), if_pos c, if_pos rfl, bindX_assoc]
  have hn := tk_next (ty := ty) (tn := tn) (mode := 1) (i := i) (by omega) hi
  refine bindX_congr (fun j M h => ?_)
  have a := partF_adv hn.2 _ _ h
  rw [timesF_fuel 400 401 j _ a.1 (by omega) (by omega)]
  rfl
theorem stepS_no {p i : Nat} {L : List (Nat × Nat)} (c : ¬ tkM ty tn 1 i = 142) (c2 : ¬ tkM ty tn 1 i = 147) : stepS ty tn p i L = addF ty tn 401 i (L ++ plL p) := by
  unfold stepS
  rw [timesF, if_neg c, if_neg c2]
  rfl
theorem addF_go {i p : Nat} {L : List (Nat × Nat)} (h400 : tn ≤ 400) (hi : i ≤ tn) (c : tkM ty tn 1 i = 100 + p) (hp : p = 43 ∨ p = 45) : addF ty tn 401 i L = restS ty tn 0 p (nextM ty tn i) L := by
  have hn := tk_next (ty := ty) (tn := tn) (mode := 1) (i := i) (by omega) hi
  have hR : restS ty tn 0 p (nextM ty tn i) L = bindX (unitF ty tn (nextM ty tn i) L) (fun j M => stepS ty tn p j M) := by
    unfold restS unX
    rw [if_neg (by omega), bindX_assoc]
    refine bindX_congr (fun j M h => ?_)
    rw [if_neg (by omega)]
    rfl
  have hL : addF ty tn 401 i L = bindX (unitF ty tn (nextM ty tn i) L) (fun i L => bindX (timesF ty tn 401 i L) (fun i' L => addF ty tn 400 i' (L ++ plL p))) := by
    have e : [(if tkM ty tn 1 i = 143 then 23 else 24, 0)] = plL p := by
      unfold plL
      obtain rfl | rfl := hp
      · rw [if_pos (by omega), if_pos rfl]
      · rw [if_neg (by omega), if_neg (by omega), if_pos rfl]
    rw [addF, if_pos (show tkM ty tn 1 i = 143 ∨ tkM ty tn 1 i = 145 by omega), e]
    unfold prodF
    rw [bindX_assoc]
  rw [hR, hL]
  refine bindX_congr (fun j M h => ?_)
  have a := unitF_adv hn.2 _ _ h
  unfold stepS
  refine bindX_congr (fun k N h2 => ?_)
  have b := timesF_adv 401 a.1 _ _ h2
  rw [addF_fuel 400 401 k _ b.1 (by omega) (by omega)]
theorem addF_no {i : Nat} {L : List (Nat × Nat)} (c : ¬ (tkM ty tn 1 i = 143 ∨ tkM ty tn 1 i = 145)) : addF ty tn 401 i L = .ok (i, L) := by
  rw [addF, if_neg c]
/-- tests, with what joins one to those before -/
noncomputable def stepB (ty : Nat → Nat) (tn : Nat) (C : Nat → List (Nat × Nat) → wXE) (a o i : Nat) (L : List (Nat × Nat)) : wXE := bindX (rowF ty tn C 5 31 401 i (if a = 1 then L ++ [(31, 0)] else L)) (fun i L => rowF ty tn (everyF ty tn C) 4 32 401 i (if o = 1 then L ++ [(32, 0)] else L))
noncomputable def restB (ty : Nat → Nat) (tn : Nat) (C : Nat → List (Nat × Nat) → wXE) (a o i : Nat) (L : List (Nat × Nat)) : wXE := bindX (C i L) (stepB ty tn C a o)
theorem any_rest {C : Nat → List (Nat × Nat) → wXE} (i : Nat) (L : List (Nat × Nat)) : anyF ty tn C i L = restB ty tn C 0 0 i L := by
  unfold anyF restB
  rw [everyF, bindX_assoc]
  rfl
theorem stepB_and {C : Nat → List (Nat × Nat) → wXE} (hC : ∀ i L, i ≤ tn → AdvX tn i L.length (C i L)) {a o i : Nat} {L : List (Nat × Nat)} (h400 : tn ≤ 400) (hi : i ≤ tn) (c : tkM ty tn 1 i = 5) : stepB ty tn C a o i L = restB ty tn C 1 o (nextM ty tn i) (if a = 1 then L ++ [(31, 0)] else L) := by
  unfold stepB restB
  rw [rowF, if_pos c, bindX_assoc]
  have hn := tk_next (ty := ty) (tn := tn) (mode := 1) (i := i) (by omega) hi
  refine bindX_congr (fun j M h => ?_)
  have b := hC _ _ hn.2 _ _ h
  rw [rowF_fuel hC (by omega) 400 401 j _ b.1 (by omega) (by omega)]
  rfl
theorem stepB_or {C : Nat → List (Nat × Nat) → wXE} (hC : ∀ i L, i ≤ tn → AdvX tn i L.length (C i L)) {a o i : Nat} {L : List (Nat × Nat)} (h400 : tn ≤ 400) (hi : i ≤ tn) (c : tkM ty tn 1 i = 4) : stepB ty tn C a o i L = restB ty tn C 0 1 (nextM ty tn i) (if o = 1 then (if a = 1 then L ++ [(31, 0)] else L) ++ [(32, 0)] else (if a = 1 then L ++ [(31, 0)] else L)) := by
  unfold stepB restB
  rw [rowF, if_neg (by omega)]
  show rowF ty tn (everyF ty tn C) 4 32 401 i _ = _
  rw [rowF, if_pos c, everyF, bindX_assoc]
  have hn := tk_next (ty := ty) (tn := tn) (mode := 1) (i := i) (by omega) hi
  refine bindX_congr (fun j M h => ?_)
  have b := hC _ _ hn.2 _ _ h
  show _ = stepB ty tn C 0 1 j M
  unfold stepB
  rw [if_neg (by omega)]
  refine bindX_congr (fun k N h2 => ?_)
  have d := rowF_adv hC (by omega) 401 b.1 _ _ h2
  rw [rowF_fuel (fun i L hi => everyF_adv hC hi) (by omega) 400 401 k _ d.1 (by omega) (by omega), if_pos rfl]
theorem stepB_no {C : Nat → List (Nat × Nat) → wXE} {a o i : Nat} {L : List (Nat × Nat)} (c : ¬ tkM ty tn 1 i = 5) (c2 : ¬ tkM ty tn 1 i = 4) : stepB ty tn C a o i L = .ok (i, if o = 1 then (if a = 1 then L ++ [(31, 0)] else L) ++ [(32, 0)] else (if a = 1 then L ++ [(31, 0)] else L)) := by
  unfold stepB
  rw [rowF, if_neg c]
  show rowF ty tn (everyF ty tn C) 4 32 401 i _ = _
  rw [rowF, if_neg c2]
end LM
theorem codesM_snoc (q : Nat × Nat) : ∀ L : List (Nat × Nat), codesM (L ++ [q]) = codesM L ++ codeM q
  | [] => by show codeM q ++ [] = [] ++ codeM q; simp
  | p :: L => by
    show codeM p ++ codesM (L ++ [q]) = (codeM p ++ codesM L) ++ codeM q
    rw [codesM_snoc q L, List.append_assoc]
