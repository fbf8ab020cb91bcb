theorem wSwF_ne {x k : Int32} {b d : wSt} {r : List (Int32 × wSt)} (h : ¬ x = k) : wSwF x ((k, b) :: r) d = wSwF x r d := if_neg h
theorem wSwF_eq {x k : Int32} {b d : wSt} {r : List (Int32 × wSt)} (h : x = k) : wSwF x ((k, b) :: r) d = b := if_pos h
theorem mMet2 {y : MethodName} {own : String} (ho : y.cls = own) (hy : plainFor y = true) {cc : ByteArray} {nL : Nat} {ret : Option FieldType} {d pe pB pC : Nat} {b : (Nat → Nat × Nat) → wSt} (hd : 0 < d) (h : ∀ X : wX, CX own cc nL ret d X → CmpS nL X 0 pe pB pC (b (gsh (xG X)))) : MetOK y cc nL ret d (fun sh => mDen nL (b sh)) := by
  subst ho
  exact mMet hy hd h
section STR
variable {own : String} {cc : ByteArray} {nL : Nat} {ret : Option FieldType} {d : Nat} {X : wX} {w pc p1 p2 p3 p4 p5 pT pF pE pB pC pM : Nat}
theorem ceIfL (hX : CX own cc nL ret d X) {c : wC} {a b : wEL} {off : Int} (hc : CmpC nL X w pc pT pF c) (ha : CmpL nL X w pT p1 a) (hd : decode cc p1 = .ok (.goto off, 3)) (ht : (p1 : Int) + off = (pE : Int)) (hb : CmpL nL X w pF pE b) : CmpL nL X w pc pE (eIfL c a b) := by
  intro ls stk t x t1 he hw k
  obtain ⟨⟨v, t2⟩, h1, he⟩ := ob_some he
  cases v with
  | true => exact hc ls stk t _ _ h1 hw (fun _ => ha ls stk _ _ _ he hw (g_goto hX hd ht k)) (fun h => by cases h)
  | false => exact hc ls stk t _ _ h1 hw (fun h => by cases h) (fun _ => hb ls stk _ _ _ he hw k)
/-- what the start says of the Strings, still so -/
theorem w_now {t : wS} {H : Heap} {locs : List Loc} (hX : CX own cc nL ret d X) (hR : RepH X t H locs) : va_S (xA X) (xs X).heap H locs := by
  have h := hR.2.2
  rw [hX.H0] at h
  exact h
theorem cStr (hX : CX own cc nL ret d X) {k i : Nat} {tx : String} (hk : wStr[k]? = some (own, i, tx, k)) (hd : decode cc pc = .ok (.ldc i, 2)) : CmpR nL X w pc (pc + 2) (eStr k) := by
  intro ls stk t x t1 he _ kk H locs lsA hR hL
  cases he
  exact va_ldcS hX.x hX.b hX.ow (hX.facts.2.1 _ (List.mem_of_getElem? hk)) hd (kk H locs lsA hR hL)
theorem cSLen (hX : CX own cc nL ret d X) {a : wER} {i : Nat} (ha : CmpR nL X w pc p1 a) (hw8 : w ≤ 8) (hd5 : 6 ≤ d) (hl : Jvm.Cond.methodLink own i yJ0_length_8abf5 ∈ w_ws) (hd : decode cc p1 = .ok (.invokevirtual i, 3)) : CmpE nL X w pc (p1 + 3) (eSLen a) := sorry
theorem cSAt (hX : CX own cc nL ret d X) {a : wER} {e : wEI} {i : Nat} (ha : CmpR nL X w pc p1 a) (he : CmpE nL X (w + 1) p1 p2 e) (hw8 : w ≤ 8) (hd5 : 6 ≤ d) (hl : Jvm.Cond.methodLink own i yJ0_charAt_5068e ∈ w_ws) (hd : decode cc p2 = .ok (.invokevirtual i, 3)) : CmpE nL X w pc (p2 + 3) (eSAt a e) := sorry
theorem cSIdx (hX : CX own cc nL ret d X) {a : wER} {e : wEI} {i : Nat} (ha : CmpR nL X w pc p1 a) (he : CmpE nL X (w + 1) p1 p2 e) (hw8 : w ≤ 8) (hd5 : 6 ≤ d) (hl : Jvm.Cond.methodLink own i yJ0_indexOf_0f7a4 ∈ w_ws) (hd : decode cc p2 = .ok (.invokevirtual i, 3)) : CmpE nL X w pc (p2 + 3) (eSIdx a e) := sorry
end STR
