/-! THE LAW: rows of its own: its script is reference 4000 -/
def SCR (X : wX) (b L : Nat) (zs : Nat → Int32) : Prop := ga (xG X) 4000 = b ∧ va_X b L zs (xs X) (xH0 X) ∧ b < (xH0 X).size ∧ ¬ xA X b
def eScr (L : Nat) (zs : Nat → Int32) (i : wEI) : wEI := fun ls t => (eLocR 0 ls t).bind fun p => (i ls p.2).bind fun q => if p.1 = 4000 ∧ wIn q.1 L = true then some (zs q.1.toNatClampNeg, q.2) else none
def eScrLen (L : Nat) : wEI := fun ls t => (eLocR 0 ls t).bind fun p => if p.1 = 4000 then some (Int32.ofNat L, p.2) else none
section LAWROW
variable {own : String} {cc : ByteArray} {nL d : Nat} {ret : Option FieldType} {X : wX} {w pc p1 p2 b L : Nat} {zs : Nat → Int32}
theorem cScr (hX : CX own cc nL ret d X) (hs : SCR X b L zs) {i : wEI} (ha : CmpR nL X w pc p1 (eLocR 0)) (hi : CmpE nL X (w + 1) p1 p2 i) (hd : decode cc p2 = .ok (.iaload, 1)) : CmpE nL X w pc (p2 + 1) (eScr L zs i) := by
  intro ls stk t x t1 he hw kk
  obtain ⟨⟨v, t2⟩, h1, he⟩ := ob_some he
  obtain ⟨⟨j, t3⟩, h2, he⟩ := ob_some he
  refine ha ls stk t v t2 h1 hw (hi ls _ t2 j t3 h2 (by rw [wcat_cons]; simp only [Value.category]; omega) fun H locs lsA hR hL => ?_)
  dsimp only at he
  by_cases hc : v = 4000 ∧ wIn j L = true
  · rw [if_pos hc] at he
    cases he
    obtain ⟨rfl, hc⟩ := hc
    obtain ⟨s1, s2, s3, s4⟩ := hs
    have e : (Value.int j :: Value.ref 4000 :: stk).map (cv (ga (xG X))) = .int j :: .ref b :: stk.map (cv (ga (xG X))) := by
      show Value.int j :: Value.ref (ga (xG X) 4000) :: _ = _
      rw [s1]
    rw [e]
    exact va_sld hX.x hX.b s2 s3 s4 hR.2.2 (wIn_in hc) hd (kk H locs lsA hR hL)
  · rw [if_neg hc] at he
    cases he
theorem cScrLen (hX : CX own cc nL ret d X) (hs : SCR X b L zs) (ha : CmpR nL X w pc p1 (eLocR 0)) (hd : decode cc p1 = .ok (.arraylength, 1)) : CmpE nL X w pc (p1 + 1) (eScrLen L) := by
  intro ls stk t x t1 he hw kk
  obtain ⟨⟨v, t2⟩, h1, he⟩ := ob_some he
  refine ha ls stk t v t2 h1 hw fun H locs lsA hR hL => ?_
  dsimp only at he
  by_cases hc : v = 4000
  · rw [if_pos hc] at he
    cases he
    subst hc
    obtain ⟨s1, s2, s3, s4⟩ := hs
    have e : (Value.ref 4000 :: stk).map (cv (ga (xG X))) = .ref b :: stk.map (cv (ga (xG X))) := by
      show Value.ref (ga (xG X) 4000) :: _ = _
      rw [s1]
    rw [e]
    exact va_slen hX.x hX.b s2 s3 s4 hR.2.2 hd (kk H locs lsA hR hL)
  · rw [if_neg hc] at he
    cases he
end LAWROW
theorem gn_astore {own : String} {cc : ByteArray} {nL d n0 cM sM : Nat} {X0 : wX} {S : List (Nat × Nat)} {c sl pc : Nat} {ls : wL} {stk : List Value} {t : wS} (hC : CN own cc nL d X0 n0 cM sM) (hc : c ≤ cM) (hs : sl ≤ sM) {v i : Nat} {k : Fin 4} (hd : decode cc pc = .ok (.astore_n k, 1)) (hi : (k : Nat) = i) (hn : i < nL) (kk : GN nL X0 S c sl (pc + 1) (ls.set i (.ref v)) stk t) : GN nL X0 S c sl pc ls (.ref v :: stk) t := fun al hal H locs lsA hR hL => by
  have hX := hC.cx (S := S) (c := c) (sl := sl) hal hc hs
  exact lv_astore_n hX.x hX.b hd hi hL.2 hn rfl (fun lsB hB => kk al hal H locs lsB hR (hL.set1 hn (fun x h => by cases h) (fun h => by cases h) wkn_ref hB))
/-! the law's locals behind i calls; what its expressions come to -/
def lwL (i : Nat) : wL := [.ref 4000, .ref 0, .ref 119, .int (J (6 * i : Nat))]
theorem lw_scr {L i k : Nat} {zs : Nat → Int32} {t : wS} (hL : L ≤ 3072) (h : 6 * i + k < L) (hk : k < 6) : eScr L zs (eB oAdd (eLoc 3) (eI (J (k : Int)))) (lwL i) t = some (zs (6 * i + k), t) := by
  have e : oAdd (J (6 * i : Nat)) (J (k : Int)) = J ((6 * i + k : Nat) : Int) := by
    rw [J_add]
    congr 1
  show (if (4000 : Nat) = 4000 ∧ wIn (oAdd (J (6 * i : Nat)) (J (k : Int))) L = true then some (zs (oAdd (J (6 * i : Nat)) (J (k : Int))).toNatClampNeg, t) else none) = _
  rw [e, if_pos ⟨rfl, J_in (by omega) (by omega) (by omega)⟩, J_nat (by omega) (by omega), Int.toNat_natCast]
