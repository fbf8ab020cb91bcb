/-! THE MODEL: an evening keeps the numbers as they must be -/
theorem gOK_deed {B : Nat} {s : wSg} (h : gOK B s) (d : Nat) : gOK (B + 1) (deedM s d) := by
  unfold deedM
  split
  · exact h.turn.le (by omega)
  · split
    · exact (h.hear _).le (by omega)
    · exact h.wind _ _
theorem gOK_deeds : ∀ (k i : Nat) {B : Nat} {s : wSg}, gOK B s → gOK (B + k) (deedsM i k s)
  | 0, _, _, _, h => h
  | k + 1, i, B, s, h => by
    rw [deedsM, show B + (k + 1) = B + 1 + k by omega]
    exact gOK_deeds k (i + 1) (gOK_deed h _)
theorem nOK.evening {B : Nat} {s ks : wSg} {Bs : List wSg} {img : Bool} (h : nOK B s ks Bs img) : nOK (B + 60) (deedsM 0 (s 213) s) ks (keepL Bs s) img := by
  have h60 := h.1.2.2.1.1
  have g := (gOK_deeds (s 213) 0 h.1).le (B' := B + 60) (by omega)
  exact h.deed (by omega) g ((deedsM_inv (s 213) 0 h.1.1).2 208 (by omega) (by omega))
theorem nOK.wind {B : Nat} {s ks : wSg} {Bs : List wSg} {img : Bool} (h : nOK B s ks Bs img) (on : Bool) (n : Nat) : nOK (B + 1) (windM s on n) ks (keepL Bs s) img := h.deed (by omega) (h.1.wind on n) (windM_lo h.1.1.2 on n 208 (by omega) (by omega))
theorem nOK.hear {B : Nat} {s ks : wSg} {Bs : List wSg} {img : Bool} (h : nOK B s ks Bs img) (n : Nat) : nOK B (hearM s n) ks (keepL Bs s) img := h.deed (by omega) (h.1.hear n) (hearM_lo h.1.1.2 n 208 (by omega) (by omega))
theorem nOK.turn {B : Nat} {s ks : wSg} {Bs : List wSg} {img : Bool} (h : nOK B s ks Bs img) : nOK B (turnM s) ks (keepL Bs s) img := h.deed (by omega) h.1.turn (turnM_lo h.1.1.2 208 (by omega) (by omega))
theorem nOK.put {B : Nat} {s ks : wSg} {Bs : List wSg} {img : Bool} (h : nOK B s ks Bs img) {p : Nat} (hp : p ≤ s 208) : nOK B (putM s p) ks (keepL Bs s) img := h.deed (by omega) (h.1.put hp) (putM_lo h.1.1.le.2.2.2.2.1 p 208 (by omega) (by omega))
