/-! THE MODEL: the numbers stay as they must be -/
section NK
variable {B : Nat} {s ks : wSg} {Bs : List wSg} {img : Bool}
theorem back_st {s s' b : wSg} (h : standOK (backM s b)) (e : s' 208 = s 208) : standOK (backM s' b) := h.ag (fun k hk => by
  unfold backM
  by_cases q : k < 208
  · rw [if_pos q, if_pos q]
  · rw [if_neg q, if_neg q, show k = 208 by omega, e])
theorem nOK.le {B' : Nat} (h : nOK B s ks Bs img) (hB : B ≤ B') : nOK B' s ks Bs img := ⟨h.1.le hB, fun j hj => ⟨(h.2.1 j hj).1, Nat.le_trans (h.2.1 j hj).2 hB⟩, fun hi => (h.2.2 hi).le hB⟩
/-- numbers told change -/
theorem nOK.told {s' : wSg} (h : nOK B s ks Bs img) (g : gOK B s') (e : s' 208 = s 208) : nOK B s' ks Bs img := ⟨g, fun j hj => ⟨back_st (h.2.1 j hj).1 e, (h.2.1 j hj).2⟩, h.2.2⟩
theorem nOK.nil {s' : wSg} (h : nOK B s ks Bs img) (g : gOK B s') : nOK B s' ks [] img := ⟨g, fun j hj => absurd hj (Nat.not_lt_zero j), h.2.2⟩
theorem keepL_in {s : wSg} {P : wSg → Prop} (h : ∀ j, j < Bs.length → P (Bs.getD j z0)) (hs : P s) : ∀ j, j < (keepL Bs s).length → P ((keepL Bs s).getD j z0) := by
  intro j hj
  unfold keepL at hj ⊢
  by_cases c : Bs.length = 6
  · rw [if_pos c] at hj ⊢
    rw [List.length_append, List.length_singleton, List.length_drop] at hj
    by_cases q : j = (Bs.drop 1).length
    · rw [q, getD_app_r]; exact hs
    · rw [List.length_drop] at q
      rw [getD_app_l (by rw [List.length_drop]; omega), getD_drop1]
      exact h (j + 1) (by omega)
  · rw [if_neg c] at hj ⊢
    rw [List.length_append, List.length_singleton] at hj
    by_cases q : j = Bs.length
    · rw [q, getD_app_r]; exact hs
    · rw [getD_app_l (by omega)]
      exact h j (by omega)
/-- a deed is done, the stand before it kept -/
theorem nOK.deed {B' : Nat} {s' : wSg} (h : nOK B s ks Bs img) (hB : B ≤ B') (g : gOK B' s') (e : s' 208 = s 208) : nOK B' s' ks (keepL Bs s) img := by
  refine ⟨g, keepL_in (P := fun b => standOK (backM s' b) ∧ b 4 ≤ B') (fun j hj => ⟨back_st (h.2.1 j hj).1 e, Nat.le_trans (h.2.1 j hj).2 hB⟩) ⟨?_, ?_⟩, fun hi => (h.2.2 hi).le hB⟩
  · refine h.1.1.2.ag (fun k hk => ?_)
    unfold backM
    by_cases q : k < 208
    · rw [if_pos q]
    · rw [if_neg q, show k = 208 by omega, e]
  · exact Nat.le_trans h.1.2.2.2.2.2.2 hB
theorem gOK_back {b : wSg} (h : gOK B s) (hs : standOK (backM s b)) (h4 : b 4 ≤ B) : gOK B (backM s b) := by
  have e : ∀ k, 208 ≤ k → backM s b k = s k := fun k hk => if_neg (by omega)
  obtain ⟨⟨⟨t1, t2, t3, t4, t5, t6⟩, st⟩, so, de, af, wo, hr, _⟩ := h
  exact ⟨⟨⟨t1.ag (e 212 (by omega)) (fun k hk => e k (by omega)), t2.ag t3 (fun k hk => e k (by omega)), by rw [e 208 (by omega)]; exact t3, hs.1, by rw [e 209 (by omega)]; exact t5, by rw [e 210 (by omega)]; exact t6⟩, hs⟩, so.ag (fun k hk => e k (by omega)), de.ag (fun k hk => e k (by omega)), af.ag (fun k hk => e k (by omega)), wo.ag (fun k hk => e k (by omega)), hr.ag t3 (fun k hk => e k (by omega)), by rw [show backM s b 4 = b 4 from if_pos (by omega)]; exact h4⟩
theorem nOK.undo (h : nOK B s ks Bs img) (h0 : Bs.length ≠ 0) : nOK B (backM s (Bs.getD (Bs.length - 1) z0)) ks (Bs.take (Bs.length - 1)) img := by
  obtain ⟨h1, h2⟩ := h.2.1 (Bs.length - 1) (by omega)
  refine ⟨gOK_back h.1 h1 h2, fun j hj => ?_, h.2.2⟩
  rw [List.length_take] at hj
  have eg : (Bs.take (Bs.length - 1)).getD j z0 = Bs.getD j z0 := by
    rw [List.getD_eq_getElem?_getD, List.getD_eq_getElem?_getD, List.getElem?_take_of_lt (by omega)]
  rw [eg]
  exact ⟨back_st (h.2.1 j (by omega)).1 (if_neg (by omega)), (h.2.1 j (by omega)).2⟩
theorem nOK.imageT (h : nOK B s ks Bs img) : nOK B s s Bs true := ⟨h.1, h.2.1, fun _ => h.1⟩
theorem nOK.imageF (h : nOK B s ks Bs true) : nOK B ks ks [] true := ⟨h.2.2 rfl, fun j hj => absurd hj (Nat.not_lt_zero j), h.2.2⟩
theorem gOK_told {s' : wSg} (h : gOK B s) (e : ∀ k, ¬ (k = 209 ∨ k = 210 ∨ k = 215 ∨ (930 ≤ k ∧ k < 954)) → s' k = s k) (h9 : s' 209 ≤ 4) (h10 : s' 210 ≤ 99) (hw : wornOK s') : gOK B s' := by
  obtain ⟨⟨⟨t1, t2, t3, t4, t5, t6⟩, st⟩, so, de, af, wo, hr, h4⟩ := h
  exact ⟨⟨⟨t1.ag (e 212 (by omega)) (fun k hk => e k (by omega)), t2.ag t3 (fun k hk => e k (by omega)), by rw [e 208 (by omega)]; exact t3, by rw [e 0 (by omega)]; exact t4, h9, h10⟩, st.ag (fun k hk => e k (by omega))⟩, so.ag (fun k hk => e k (by omega)), de.ag (fun k hk => e k (by omega)), af.ag (fun k hk => e k (by omega)), hw, hr.ag t3 (fun k hk => e k (by omega)), by rw [e 4 (by omega)]; exact h4⟩
theorem nOK.set (h : nOK B s ks Bs img) (v w : Int) : nOK B (setR s Bs v w).1 ks (setR s Bs v w).2.1 img := by
  have h5 := h.1.1.1.2.2.2.2.1
  have h6 := h.1.1.1.2.2.2.2.2
  unfold setR
  by_cases c : v = 0 ∧ 0 ≤ w ∧ w ≤ 4
  · rw [if_pos c]
    refine h.nil (gOK_told h.1 (fun k hk => su_ne (by omega)) ?_ ?_ (h.1.2.2.2.2.1.ag (fun k hk => su_ne (by omega))))
    · show su s 209 w.toNat 209 ≤ 4
      rw [show su s 209 w.toNat 209 = w.toNat from if_pos rfl]; omega
    · show su s 209 w.toNat 210 ≤ 99
      rw [su_ne (by omega)]; exact h6
  · rw [if_neg c]
    by_cases c2 : v = 1 ∧ 0 ≤ w ∧ w ≤ 99
    · rw [if_pos c2]
      refine h.nil (gOK_told h.1 (fun k hk => su_ne (by omega)) ?_ ?_ (h.1.2.2.2.2.1.ag (fun k hk => su_ne (by omega))))
      · show su s 210 w.toNat 209 ≤ 4
        rw [su_ne (by omega)]; exact h5
      · show su s 210 w.toNat 210 ≤ 99
        rw [show su s 210 w.toNat 210 = w.toNat from if_pos rfl]; omega
    · rw [if_neg c2]
      exact h
theorem nOK.worn (h : nOK B s ks Bs img) (v w : Int) : nOK B (wornR s v w).1 ks Bs img := by
  have h5 := h.1.1.1.2.2.2.2.1
  have h6 := h.1.1.1.2.2.2.2.2
  have h8 := h.1.1.1.2.2.1
  obtain ⟨w1, w2⟩ := h.1.2.2.2.2.1
  unfold wornR
  by_cases c : v = -1
  · rw [if_pos c]
    refine h.told (gOK_told h.1 (fun k hk => su_ne (by omega)) ?_ ?_ ⟨?_, fun i hi => ?_⟩) (show su s 215 0 208 = s 208 from su_ne (by omega))
    · show su s 215 0 209 ≤ 4
      rw [su_ne (by omega)]; exact h5
    · show su s 215 0 210 ≤ 99
      rw [su_ne (by omega)]; exact h6
    · show su s 215 0 215 ≤ 12
      rw [su_eq]; omega
    · have hi2 : i < su s 215 0 215 := hi
      rw [su_eq] at hi2
      omega
  · rw [if_neg c]
    by_cases c2 : (0 ≤ v ∧ v ≤ s 208) ∧ (1 ≤ w ∧ w ≤ 99) ∧ ¬ s 215 = 12
    · rw [if_pos c2]
      dsimp only
      refine h.told (gOK_told h.1 (fun k hk => by rw [su_ne (by omega), su_ne (by omega), su_ne (by omega)]) ?_ ?_ ⟨?_, fun i hi => ?_⟩) (by rw [su_ne (by omega), su_ne (by omega), su_ne (by omega)])
      · rw [su_ne (by omega), su_ne (by omega), su_ne (by omega)]; exact h5
      · rw [su_ne (by omega), su_ne (by omega), su_ne (by omega)]; exact h6
      · show (if _ then _ else _) ≤ 12
        rw [if_pos rfl]; omega
      · change i < (if 215 = 215 then s 215 + 1 else _) at hi
        rw [if_pos rfl] at hi
        by_cases q : i = s 215
        · subst q
          refine ⟨?_, ?_⟩
          · rw [su_ne (by omega), su_ne (by omega), show su s (930 + 2 * s 215) v.toNat (930 + 2 * s 215) = v.toNat from if_pos rfl]; omega
          · rw [su_ne (by omega), show su (su s (930 + 2 * s 215) v.toNat) (930 + 2 * s 215 + 1) w.toNat (930 + 2 * s 215 + 1) = w.toNat from if_pos rfl]; omega
        · rw [su_ne (by omega), su_ne (by omega), su_ne (by omega), su_ne (by omega), su_ne (by omega), su_ne (by omega)]
          exact w2 i (by omega)
    · rw [if_neg c2]
      exact h
theorem nOK.state (h : nOK B s ks Bs img) (v : Nat) : nOK B (su s 5 v) ks [] img := h.nil (h.1.lo ((LO.refl s).put (by omega)) (h.1.1.2.put (by omega) (by omega) (by omega) (by omega) (by omega)) (by rw [su_ne (by omega)]; exact h.1.2.2.2.2.2.2))
end NK
