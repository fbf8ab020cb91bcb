section STMT
variable {own : String} {cc : ByteArray} {nL : Nat} {ret : Option FieldType} {d : Nat} {X : wX} {w pc p1 p2 p3 p4 p5 pT pF pE pB pC pM pU : Nat}
theorem csSkip : CmpS nL X pc pc pB pC sSkip := fun ls t o he hp => by
  cases he
  exact hp.1 rfl
theorem csSeq {a b : wSt} (ha : CmpS nL X pc pM pB pC a) (hb : CmpS nL X pM p1 pB pC b) : CmpS nL X pc p1 pB pC (sSeq a b) := fun ls t o he hp => by
  obtain ⟨o1, h1, he⟩ := ob_some he
  refine ha ls t o1 h1 ?_
  by_cases h0 : o1.1 = 0
  · rw [if_pos h0] at he
    exact ⟨fun _ => hb _ _ o he hp, fun h => by omega, fun h => by omega, fun h => by omega⟩
  · rw [if_neg h0] at he
    cases he
    exact ⟨fun h => absurd h h0, hp.2.1, hp.2.2.1, hp.2.2.2⟩
theorem csGo (hX : CX own cc nL ret d X) {a : wSt} {off : Int} (ha : CmpS nL X pc pM pB pC a) (hd : decode cc pM = .ok (.goto off, 3)) (ht : (pM : Int) + off = (p1 : Int)) : CmpS nL X pc p1 pB pC a := fun ls t o he hp => ha ls t o he ⟨fun h => g_goto hX hd ht (hp.1 h), hp.2.1, hp.2.2.1, hp.2.2.2⟩
theorem csLoc_n (hX : CX own cc nL ret d X) {e : wEI} {k : Fin 4} {i : Nat} (he : CmpE nL X 0 pc p1 e) (hd : decode cc p1 = .ok (.istore_n k, 1)) (hi : (k : Nat) = i) (hn : i < nL) : CmpS nL X pc (p1 + 1) pB pC (sLoc i e) := fun ls t o h hp => by
  obtain ⟨⟨v, t1⟩, h1, h⟩ := ob_some h
  cases h
  refine he ls [] t v _ h1 (Nat.le_refl 0) fun H locs lsA hR hL => ?_
  exact lv_istore_n hX.x hX.b hd hi hL.2 hn rfl (fun lsB hB => hp.1 rfl H locs lsB hR (hL.set1 hn (fun x h => by cases h) (fun h => by cases h) wkn_int hB))
theorem csLoc (hX : CX own cc nL ret d X) {e : wEI} {i : Nat} (he : CmpE nL X 0 pc p1 e) (hd : decode cc p1 = .ok (.istore i, 2)) (hn : i < nL) : CmpS nL X pc (p1 + 2) pB pC (sLoc i e) := fun ls t o h hp => by
  obtain ⟨⟨v, t1⟩, h1, h⟩ := ob_some h
  cases h
  refine he ls [] t v _ h1 (Nat.le_refl 0) fun H locs lsA hR hL => ?_
  exact lv_istore hX.x hX.b hd hL.2 hn rfl (fun lsB hB => hp.1 rfl H locs lsB hR (hL.set1 hn (fun x h => by cases h) (fun h => by cases h) wkn_int hB))
theorem csLocR_n (hX : CX own cc nL ret d X) {e : wER} {k : Fin 4} {i : Nat} (he : CmpR nL X 0 pc p1 e) (hd : decode cc p1 = .ok (.astore_n k, 1)) (hi : (k : Nat) = i) (hn : i < nL) : CmpS nL X pc (p1 + 1) pB pC (sLocR i e) := fun ls t o h hp => by
  obtain ⟨⟨v, t1⟩, h1, h⟩ := ob_some h
  cases h
  refine he ls [] t v _ h1 (Nat.le_refl 0) fun H locs lsA hR hL => ?_
  exact lv_astore_n hX.x hX.b hd hi hL.2 hn rfl (fun lsB hB => hp.1 rfl H locs lsB hR (hL.set1 hn (fun x h => by cases h) (fun h => by cases h) wkn_ref hB))
theorem csLocR (hX : CX own cc nL ret d X) {e : wER} {i : Nat} (he : CmpR nL X 0 pc p1 e) (hd : decode cc p1 = .ok (.astore i, 2)) (hn : i < nL) : CmpS nL X pc (p1 + 2) pB pC (sLocR i e) := fun ls t o h hp => by
  obtain ⟨⟨v, t1⟩, h1, h⟩ := ob_some h
  cases h
  refine he ls [] t v _ h1 (Nat.le_refl 0) fun H locs lsA hR hL => ?_
  exact lv_astore hX.x hX.b hd hL.2 hn rfl (fun lsB hB => hp.1 rfl H locs lsB hR (hL.set1 hn (fun x h => by cases h) (fun h => by cases h) wkn_ref hB))
theorem csLocL_n (hX : CX own cc nL ret d X) {e : wEL} {k : Fin 4} {i : Nat} (he : CmpL nL X 0 pc p1 e) (hd : decode cc p1 = .ok (.lstore_n k, 1)) (hi : (k : Nat) = i) (hn : i + 1 < nL) : CmpS nL X pc (p1 + 1) pB pC (sLocL i e) := fun ls t o h hp => by
  obtain ⟨⟨v, t1⟩, h1, h⟩ := ob_some h
  cases h
  refine he ls [] t v _ h1 (Nat.le_refl 0) fun H locs lsA hR hL => ?_
  exact lv_lstore_n hX.x hX.b hd hi hL.2 hn rfl (fun lsB hB => hp.1 rfl H locs lsB hR ⟨by rw [List.length_set, List.length_set]; exact hL.1, lv_mono hB (wlst_set2 (by rw [hL.1]; exact hn))⟩)
theorem csLocL (hX : CX own cc nL ret d X) {e : wEL} {i : Nat} (he : CmpL nL X 0 pc p1 e) (hd : decode cc p1 = .ok (.lstore i, 2)) (hn : i + 1 < nL) : CmpS nL X pc (p1 + 2) pB pC (sLocL i e) := fun ls t o h hp => by
  obtain ⟨⟨v, t1⟩, h1, h⟩ := ob_some h
  cases h
  refine he ls [] t v _ h1 (Nat.le_refl 0) fun H locs lsA hR hL => ?_
  exact lv_lstore hX.x hX.b hd hL.2 hn rfl (fun lsB hB => hp.1 rfl H locs lsB hR ⟨by rw [List.length_set, List.length_set]; exact hL.1, lv_mono hB (wlst_set2 (by rw [hL.1]; exact hn))⟩)
theorem csInc (hX : CX own cc nL ret d X) {i : Nat} {n : Int} (hd : decode cc pc = .ok (.iinc i n, 3)) (hn : i < nL) : CmpS nL X pc (pc + 3) pB pC (sInc i n) := fun ls t o h hp => by
  unfold sInc at h
  split at h
  · rename_i v hv
    cases h
    intro H locs lsA hR hL
    have hm : (i, Value.int v) ∈ wlst (ga (xG X)) ls := wlst_mem.mpr (by unfold wkn; rw [hv])
    obtain ⟨k, hk⟩ := List.getElem?_of_mem hm
    exact lv_iinc hX.x hX.b hd hL.2 hk rfl hn rfl (fun lsB hB => hp.1 rfl H locs lsB hR (hL.set1 hn (fun x h => by cases h) (fun h => by cases h) wkn_int hB))
  · cases h
/-! stores into cells -/
theorem g_put (hX : CX own cc nL ret d X) {C ref n ds : String} {T : u_T} {N ci k i : Nat} {ty0 : Nat → FieldType} {ty : FieldType} (hc : vwCl[ci]? = some (C, T, N)) (hin : ∀ w ∈ u_ws C T N, w ∈ w_ws) (hN : wnf ci = N) (hk : k < N) (hkd : wkd ci k ≠ 2) (hT : T k = (ref, n, ds, false)) (hl : Jvm.Cond.fieldLink own i ref n ds ∈ w_ws) (hty : ∀ k, k < N → parseFieldDescriptor (T k).2.2.1 = some (ty0 k)) (hnm : ∀ a, a < N → ∀ b, b < N → a ≠ b → (T a).2.1 ≠ (T b).2.1) (hds : parseFieldDescriptor ds = some ty) (hd : decode cc pc = .ok (.putfield i, 3))
    {ls : wL} {stk : List Value} {t : wS} {b : Nat} {v : Int32} (hn : narrow ty (.int v) = .int v) (hfit : fits ty (.int v) = true) (hsh : gsh (xG X) b = (0, ci)) (kk : Go nL X (pc + 3) ls stk (wUI t b k v)) : Go nL X pc ls (.int v :: .ref b :: stk) t := by
  intro H locs lsA hR hL
  have e1 : (T k).1 = ref := by rw [hT]
  have e2 : (T k).2.1 = n := by rw [hT]
  have e3 : (T k).2.2.1 = ds := by rw [hT]
  have e4 : (T k).2.2.2 = false := by rw [hT]
  refine va_put (v := .int v) (own := own) (C := C) (T := T) (N := N) (ref := ref) hX.x hX.b hX.ts hin ty0 hty hnm hX.ow hX.K hR.1 hR.2.1 hR.2.2 b (w_at_obj t hsh) hc k hk (by rw [e2, e3]; exact hX.ts _ hl) (fun x h => by rw [e1] at h; exact h) e4 (by rw [e3]; exact hds) hn hfit (by simpa [hN] using hk) hd (fun H1 locs1 hP hD hS => ?_)
  rw [w_setF hsh (by rw [hN]; exact hk) hkd] at hP hD
  exact kk H1 locs1 lsA ⟨hP, hD, hS⟩ hL
theorem csPut (hX : CX own cc nL ret d X) {C ref n ds : String} {T : u_T} {N ci k i : Nat} {ty0 : Nat → FieldType} {a : wER} {e : wEI} (ha : CmpR nL X 0 pc p1 a) (he : CmpE nL X 1 p1 p2 e) (hc : vwCl[ci]? = some (C, T, N)) (hin : ∀ w ∈ u_ws C T N, w ∈ w_ws) (hN : wnf ci = N) (hk : k < N) (hkd : wkd ci k ≠ 2) (hT : T k = (ref, n, ds, false)) (hl : Jvm.Cond.fieldLink own i ref n ds ∈ w_ws) (hty : ∀ k, k < N → parseFieldDescriptor (T k).2.2.1 = some (ty0 k)) (hnm : ∀ a, a < N → ∀ b, b < N → a ≠ b → (T a).2.1 ≠ (T b).2.1) (hds : parseFieldDescriptor ds = some .int) (hd : decode cc p2 = .ok (.putfield i, 3)) : CmpS nL X pc (p2 + 3) pB pC (sPut (gsh (xG X)) ci k a e) := fun ls t o h hp => by
  obtain ⟨⟨b, t1⟩, h1, h⟩ := ob_some h
  obtain ⟨⟨v, t2⟩, h2, h⟩ := ob_some h
  dsimp only at h
  by_cases hsh : gsh (xG X) b = (0, ci)
  · rw [if_pos hsh] at h
    cases h
    exact ha ls [] t b t1 h1 (Nat.le_refl 0) (he ls _ t1 v t2 h2 (Nat.le_refl 1) (g_put hX hc hin hN hk hkd hT hl hty hnm hds hd rfl rfl hsh (hp.1 rfl)))
  · rw [if_neg hsh] at h
    cases h
theorem csPutZ (hX : CX own cc nL ret d X) {C ref n ds : String} {T : u_T} {N ci k i : Nat} {ty0 : Nat → FieldType} {a : wER} {e : wEI} (ha : CmpR nL X 0 pc p1 a) (he : CmpE nL X 1 p1 p2 e) (hc : vwCl[ci]? = some (C, T, N)) (hin : ∀ w ∈ u_ws C T N, w ∈ w_ws) (hN : wnf ci = N) (hk : k < N) (hkd : wkd ci k ≠ 2) (hT : T k = (ref, n, ds, false)) (hl : Jvm.Cond.fieldLink own i ref n ds ∈ w_ws) (hty : ∀ k, k < N → parseFieldDescriptor (T k).2.2.1 = some (ty0 k)) (hnm : ∀ a, a < N → ∀ b, b < N → a ≠ b → (T a).2.1 ≠ (T b).2.1) (hds : parseFieldDescriptor ds = some .boolean) (hd : decode cc p2 = .ok (.putfield i, 3)) : CmpS nL X pc (p2 + 3) pB pC (sPutZ (gsh (xG X)) ci k a e) := fun ls t o h hp => by
  obtain ⟨⟨b, t1⟩, h1, h⟩ := ob_some h
  obtain ⟨⟨v, t2⟩, h2, h⟩ := ob_some h
  dsimp only at h
  by_cases hsh : gsh (xG X) b = (0, ci) ∧ (v = 0 ∨ v = 1)
  · rw [if_pos hsh] at h
    cases h
    refine ha ls [] t b t1 h1 (Nat.le_refl 0) (he ls _ t1 v t2 h2 (Nat.le_refl 1) (g_put hX hc hin hN hk hkd hT hl hty hnm hds hd ?_ ?_ hsh.1 (hp.1 rfl)))
    · rcases hsh.2 with rfl | rfl <;> decide
    · rcases hsh.2 with rfl | rfl <;> decide
  · rw [if_neg hsh] at h
    cases h
theorem g_get (hX : CX own cc nL ret d X) {C ref n ds : String} {T : u_T} {N ci k i : Nat} (hc : vwCl[ci]? = some (C, T, N)) (hin : ∀ w ∈ u_ws C T N, w ∈ w_ws) (hN : wnf ci = N) (hk : k < N) (hkd : wkd ci k ≠ 2) (hT : T k = (ref, n, ds, (T k).2.2.2)) (hl : Jvm.Cond.fieldLink own i ref n ds ∈ w_ws) (hd : decode cc pc = .ok (.getfield i, 3)) {ls : wL} {stk : List Value} {t : wS} {b : Nat} (hsh : gsh (xG X) b = (0, ci)) (kk : Go nL X (pc + 3) ls (.int (t.1 b k) :: stk) t) : Go nL X pc ls (.ref b :: stk) t := by
  intro H locs lsA hR hL
  have e1 : (T k).1 = ref := by rw [hT]
  have e2 : (T k).2.1 = n := by rw [hT]
  have e3 : (T k).2.2.1 = ds := by rw [hT]
  exact va_get (own := own) (C := C) (T := T) (N := N) (ref := ref) hX.x hX.b hX.ts hin hX.ow hX.K hR.1 b (w_at_obj t hsh) hc k hk (by rw [e2, e3]; exact hX.ts _ hl) (fun x h => by rw [e1] at h; exact h) (v := .int (t.1 b k)) (by rw [w_fs_at (by rw [hN]; exact hk)]; unfold w_fv; rw [if_neg hkd]) hd (kk H locs lsA hR hL)
theorem g_dup (hX : CX own cc nL ret d X) {ls : wL} {stk : List Value} {t : wS} {v : Value} (hv : v.category = 1) (hd : decode cc pc = .ok (.dup, 1)) (kk : Go nL X (pc + 1) ls (v :: v :: stk) t) : Go nL X pc ls (v :: stk) t := fun H locs lsA hR hL => lv_dup hX.x hX.b hd (by rw [cv_cat]; exact hv) (kk H locs lsA hR hL)
theorem g_dup2 (hX : CX own cc nL ret d X) {ls : wL} {stk : List Value} {t : wS} {v u : Value} (hv : v.category = 1) (hu : u.category = 1) (hd : decode cc pc = .ok (.dup2, 1)) (kk : Go nL X (pc + 1) ls (v :: u :: v :: u :: stk) t) : Go nL X pc ls (v :: u :: stk) t := fun H locs lsA hR hL => lv_dup2_11 hX.x hX.b hd (by rw [cv_cat]; exact hv) (by rw [cv_cat]; exact hu) (kk H locs lsA hR hL)
/-- one instruction that makes one int of two -/
def BinOp (nL : Nat) (X : wX) (p p' : Nat) (op : Int32 → Int32 → Int32) : Prop := ∀ (ls : wL) (stk : List Value) (t : wS) (x y : Int32), Go nL X p' ls (.int (op x y) :: stk) t → Go nL X p ls (.int y :: .int x :: stk) t
theorem b_iadd (hX : CX own cc nL ret d X) (hd : decode cc pc = .ok (.iadd, 1)) : BinOp nL X pc (pc + 1) oAdd := fun _ _ _ _ _ k H locs lsA hR hL => lv_iadd hX.x hX.b hd (k H locs lsA hR hL)
theorem b_isub (hX : CX own cc nL ret d X) (hd : decode cc pc = .ok (.isub, 1)) : BinOp nL X pc (pc + 1) oSub := fun _ _ _ _ _ k H locs lsA hR hL => lv_isub hX.x hX.b hd (k H locs lsA hR hL)
theorem b_imul (hX : CX own cc nL ret d X) (hd : decode cc pc = .ok (.imul, 1)) : BinOp nL X pc (pc + 1) oMul := fun _ _ _ _ _ k H locs lsA hR hL => lv_imul hX.x hX.b hd (k H locs lsA hR hL)
theorem b_ior (hX : CX own cc nL ret d X) (hd : decode cc pc = .ok (.ior, 1)) : BinOp nL X pc (pc + 1) oOr := fun _ _ _ _ _ k H locs lsA hR hL => lv_ior hX.x hX.b hd (k H locs lsA hR hL)
theorem csPutO (hX : CX own cc nL ret d X) {C ref n ds : String} {T : u_T} {N ci k i : Nat} {ty0 : Nat → FieldType} {a : wER} {e : wEI} {op : Int32 → Int32 → Int32} (ha : CmpR nL X 0 pc p1 a) (hdu : decode cc p1 = .ok (.dup, 1)) (hg : decode cc (p1 + 1) = .ok (.getfield i, 3)) (he : CmpE nL X 2 (p1 + 1 + 3) p2 e) (ho : BinOp nL X p2 p3 op) (hc : vwCl[ci]? = some (C, T, N)) (hin : ∀ w ∈ u_ws C T N, w ∈ w_ws) (hN : wnf ci = N) (hk : k < N) (hkd : wkd ci k ≠ 2) (hT : T k = (ref, n, ds, false)) (hl : Jvm.Cond.fieldLink own i ref n ds ∈ w_ws) (hty : ∀ k, k < N → parseFieldDescriptor (T k).2.2.1 = some (ty0 k)) (hnm : ∀ a, a < N → ∀ b, b < N → a ≠ b → (T a).2.1 ≠ (T b).2.1) (hds : parseFieldDescriptor ds = some .int) (hd : decode cc p3 = .ok (.putfield i, 3)) : CmpS nL X pc (p3 + 3) pB pC (sPutO (gsh (xG X)) ci k a op e) := fun ls t o h hp => by
  obtain ⟨⟨b, t1⟩, h1, h⟩ := ob_some h
  dsimp only at h
  by_cases hsh : gsh (xG X) b = (0, ci)
  · rw [if_pos hsh] at h
    obtain ⟨⟨v, t2⟩, h2, h⟩ := ob_some h
    cases h
    exact ha ls [] t b t1 h1 (Nat.le_refl 0) (g_dup hX rfl hdu (g_get hX hc hin hN hk hkd (by rw [hT]) hl hg hsh (he ls _ t1 v t2 h2 (Nat.le_refl 2) (ho ls _ t2 _ v (g_put hX hc hin hN hk hkd hT hl hty hnm hds hd rfl rfl hsh (hp.1 rfl))))))
  · rw [if_neg hsh] at h
    cases h
theorem g_iast (hX : CX own cc nL ret d X) {ls : wL} {stk : List Value} {t : wS} {b : Nat} {i v : Int32} (h1 : (gsh (xG X) b).1 = 1) (hin : wIn i (gsh (xG X) b).2 = true) (hd : decode cc pc = .ok (.iastore, 1)) (kk : Go nL X (pc + 1) ls stk (wUI t b i.toNatClampNeg v)) : Go nL X pc ls (.int v :: .int i :: .ref b :: stk) t := by
  intro H locs lsA hR hL
  refine va_iast hX.x hX.b hX.K hR.1 hR.2.1 hR.2.2 b 0 (w_at_arr t (sh_eq1 h1)) rfl (wIn_in hin) hd (fun H1 locs1 hP hD hS => ?_)
  rw [w_setA (sh_eq1 h1)] at hP hD
  exact kk H1 locs1 lsA ⟨hP, hD, hS⟩ hL
theorem csAst (hX : CX own cc nL ret d X) {a : wER} {i e : wEI} (ha : CmpR nL X 0 pc p1 a) (hi : CmpE nL X 1 p1 p2 i) (he : CmpE nL X 2 p2 p3 e) (hd : decode cc p3 = .ok (.iastore, 1)) : CmpS nL X pc (p3 + 1) pB pC (sAst (gsh (xG X)) a i e) := fun ls t o h hp => by
  obtain ⟨⟨b, t1⟩, h1, h⟩ := ob_some h
  obtain ⟨⟨j, t2⟩, h2, h⟩ := ob_some h
  obtain ⟨⟨v, t3⟩, h3, h⟩ := ob_some h
  dsimp only at h
  by_cases hc : (gsh (xG X) b).1 = 1 ∧ wIn j (gsh (xG X) b).2 = true
  · rw [if_pos hc] at h
    cases h
    exact ha ls [] t b t1 h1 (Nat.le_refl 0) (hi ls _ t1 j t2 h2 (Nat.le_refl 1) (he ls _ t2 v t3 h3 (Nat.le_refl 2) (g_iast hX hc.1 hc.2 hd (hp.1 rfl))))
  · rw [if_neg hc] at h
    cases h
theorem g_iald (hX : CX own cc nL ret d X) {ls : wL} {stk : List Value} {t : wS} {b : Nat} {i : Int32} (h1 : (gsh (xG X) b).1 = 1) (hin : wIn i (gsh (xG X) b).2 = true) (hd : decode cc pc = .ok (.iaload, 1)) (kk : Go nL X (pc + 1) ls (.int (t.1 b i.toNatClampNeg) :: stk) t) : Go nL X pc ls (.int i :: .ref b :: stk) t := fun H locs lsA hR hL => va_iald hX.x hX.b hX.K hR.1 b 0 (w_at_arr t (sh_eq1 h1)) rfl (wIn_in hin) hd (kk H locs lsA hR hL)
theorem csAstO (hX : CX own cc nL ret d X) {a : wER} {i e : wEI} {op : Int32 → Int32 → Int32} (ha : CmpR nL X 0 pc p1 a) (hi : CmpE nL X 1 p1 p2 i) (hdu : decode cc p2 = .ok (.dup2, 1)) (hg : decode cc (p2 + 1) = .ok (.iaload, 1)) (he : CmpE nL X 3 (p2 + 1 + 1) p3 e) (ho : BinOp nL X p3 p4 op) (hd : decode cc p4 = .ok (.iastore, 1)) : CmpS nL X pc (p4 + 1) pB pC (sAstO (gsh (xG X)) a i op e) := fun ls t o h hp => by
  obtain ⟨⟨b, t1⟩, h1, h⟩ := ob_some h
  obtain ⟨⟨j, t2⟩, h2, h⟩ := ob_some h
  dsimp only at h
  by_cases hc : (gsh (xG X) b).1 = 1 ∧ wIn j (gsh (xG X) b).2 = true
  · rw [if_pos hc] at h
    obtain ⟨⟨v, t3⟩, h3, h⟩ := ob_some h
    cases h
    exact ha ls [] t b t1 h1 (Nat.le_refl 0) (hi ls _ t1 j t2 h2 (Nat.le_refl 1) (g_dup2 hX rfl rfl hdu (g_iald hX hc.1 hc.2 hg (he ls _ t2 v t3 h3 (Nat.le_refl 3) (ho ls _ t3 _ v (g_iast hX hc.1 hc.2 hd (hp.1 rfl)))))))
  · rw [if_neg hc] at h
    cases h
theorem csAstD (hX : CX own cc nL ret d X) {a : wER} {i e : wEI} (ha : CmpR nL X 0 pc p1 a) (hi : CmpE nL X 1 p1 p2 i) (hdu : decode cc p2 = .ok (.dup2, 1)) (hg : decode cc (p2 + 1) = .ok (.iaload, 1)) (he : CmpE nL X 3 (p2 + 1 + 1) p3 e) (ho : decode cc p3 = .ok (.idiv, 1)) (hd : decode cc (p3 + 1) = .ok (.iastore, 1)) : CmpS nL X pc (p3 + 1 + 1) pB pC (sAstD (gsh (xG X)) a i oDiv e) := fun ls t o h hp => by
  obtain ⟨⟨b, t1⟩, h1, h⟩ := ob_some h
  obtain ⟨⟨j, t2⟩, h2, h⟩ := ob_some h
  dsimp only at h
  by_cases hc : (gsh (xG X) b).1 = 1 ∧ wIn j (gsh (xG X) b).2 = true
  · rw [if_pos hc] at h
    obtain ⟨⟨v, t3⟩, h3, h⟩ := ob_some h
    by_cases hv : v = 0
    · rw [if_pos hv] at h
      cases h
    · rw [if_neg hv] at h
      cases h
      exact ha ls [] t b t1 h1 (Nat.le_refl 0) (hi ls _ t1 j t2 h2 (Nat.le_refl 1) (g_dup2 hX rfl rfl hdu (g_iald hX hc.1 hc.2 hg (he ls _ t2 v t3 h3 (Nat.le_refl 3) (fun H locs lsA hR hL => lv_idiv hX.x hX.b ho hv (g_iast hX hc.1 hc.2 hd (hp.1 rfl) H locs lsA hR hL))))))
  · rw [if_neg hc] at h
    cases h
theorem csAstR (hX : CX own cc nL ret d X) {ci : Nat} {T : u_T} {N : Nat} {a e : wER} {i : wEI} (hcl : vwCl[ci]? = some ("WoundTape$Stand", T, N)) (ha : CmpR nL X 0 pc p1 a) (hi : CmpE nL X 1 p1 p2 i) (he : CmpR nL X 2 p2 p3 e) (hd : decode cc p3 = .ok (.aastore, 1)) : CmpS nL X pc (p3 + 1) pB pC (sAstR (gsh (xG X)) ci a i e) := fun ls t o h hp => by
  obtain ⟨⟨b, t1⟩, h1, h⟩ := ob_some h
  obtain ⟨⟨j, t2⟩, h2, h⟩ := ob_some h
  obtain ⟨⟨v, t3⟩, h3, h⟩ := ob_some h
  dsimp only at h
  by_cases hc : (gsh (xG X) b).1 = 3 ∧ wIn j (gsh (xG X) b).2 = true ∧ gsh (xG X) v = (0, ci) ∧ ¬ v = 5000
  · rw [if_pos hc] at h
    cases h
    refine ha ls [] t b t1 h1 (Nat.le_refl 0) (hi ls _ t1 j t2 h2 (Nat.le_refl 1) (he ls _ t2 v t3 h3 (Nat.le_refl 2) fun H locs lsA hR hL => ?_))
    have hb : gsh (xG X) b = (3, (gsh (xG X) b).2) := by rw [← hc.1]
    refine va_astq hX.x hX.b hX.K hR.1 hR.2.1 hR.2.2 b 2 v ci (w_at_arr3 t3 hb) (r := ("WoundTape$Stand", T, N)) rfl (w_at_obj t3 hc.2.2.1) hcl (wIn_in hc.2.1) hd (fun H1 locs1 hP hD hS => ?_)
    rw [w_setR hb hc.2.2.2] at hP hD
    exact hp.1 rfl H1 locs1 lsA ⟨hP, hD, hS⟩ hL
  · rw [if_neg hc] at h
    cases h
/-! the flow -/
theorem csIf {c : wC} {a b : wSt} (hc : CmpC nL X 0 pc pT pF c) (ha : CmpS nL X pT p1 pB pC a) (hb : CmpS nL X pF p1 pB pC b) : CmpS nL X pc p1 pB pC (sIf c a b) := fun ls t o he hp => by
  obtain ⟨⟨v, t1⟩, h1, he⟩ := ob_some he
  cases v with
  | true => exact hc ls [] t _ _ h1 (Nat.le_refl 0) (fun _ => ha ls _ o he hp) (fun h => by cases h)
  | false => exact hc ls [] t _ _ h1 (Nat.le_refl 0) (fun h => by cases h) (fun _ => hb ls _ o he hp)
theorem csWh {c : wC} {b u : wSt} {qB qC : Nat} (hc : CmpC nL X 0 pc pT p1 c) (hb : CmpS nL X pT pU p1 pU b) (hu : CmpS nL X pU pc qB qC u) : ∀ k : Nat, CmpS nL X pc p1 pB pC (sWh c b u k) := by
  intro k
  induction k with
  | zero => exact fun ls t o he hp => by cases he
  | succ k ih =>
    intro ls t o he hp
    obtain ⟨⟨v, t1⟩, h1, he⟩ := ob_some he
    cases v with
    | false =>
      cases he
      exact hc ls [] t _ _ h1 (Nat.le_refl 0) (fun h => by cases h) (fun _ => hp.1 rfl)
    | true =>
      refine hc ls [] t _ _ h1 (Nat.le_refl 0) (fun _ => ?_) (fun h => by cases h)
      obtain ⟨o1, h2, he⟩ := ob_some he
      refine hb ls t1 o1 h2 ?_
      by_cases e1 : o1.1 = 1
      · rw [if_pos e1] at he
        cases he
        exact ⟨fun h => by omega, fun _ => hp.1 rfl, fun h => by omega, fun h => by omega⟩
      · rw [if_neg e1] at he
        by_cases e3 : o1.1 = 3
        · rw [if_pos e3] at he
          cases he
          exact ⟨fun h => by omega, fun h => by omega, fun h => by omega, hp.2.2.2⟩
        · rw [if_neg e3] at he
          obtain ⟨o2, h3, he⟩ := ob_some he
          by_cases e2 : o2.1 = 0
          · rw [if_pos e2] at he
            have hg : Go nL X pU o1.2.2.1 [] o1.2.2.2 := hu _ _ o2 h3 ⟨fun _ => ih _ _ o he hp, fun h => by omega, fun h => by omega, fun h => by omega⟩
            exact ⟨fun _ => hg, fun h => absurd h e1, fun _ => hg, fun h => absurd h e3⟩
          · rw [if_neg e2] at he
            cases he
theorem csBrk (hX : CX own cc nL ret d X) {off : Int} (hd : decode cc pc = .ok (.goto off, 3)) (ht : (pc : Int) + off = (pB : Int)) : CmpS nL X pc p1 pB pC sBrk := fun ls t o he hp => by
  cases he
  exact g_goto hX hd ht (hp.2.1 rfl)
theorem csCon (hX : CX own cc nL ret d X) {off : Int} (hd : decode cc pc = .ok (.goto off, 3)) (ht : (pc : Int) + off = (pC : Int)) : CmpS nL X pc p1 pB pC sCon := fun ls t o he hp => by
  cases he
  exact g_goto hX hd ht (hp.2.2.1 rfl)
/-- a continue, or a break, that is a jump's target alone -/
theorem csCon0 : CmpS nL X pC p1 pB pC sCon := fun ls t o he hp => by
  cases he
  exact hp.2.2.1 rfl
theorem csBrk0 : CmpS nL X pB p1 pB pC sBrk := fun ls t o he hp => by
  cases he
  exact hp.2.1 rfl
theorem csRet (hX : CX own cc nL (some .int) d X) {e : wEI} (he : CmpE nL X 0 pc p2 e) (hd : decode cc p2 = .ok (.ireturn, 1)) : CmpS nL X pc p1 pB pC (sRet e) := fun ls t o h hp => by
  obtain ⟨⟨v, t1⟩, h1, h⟩ := ob_some h
  cases h
  refine he ls [] t v t1 h1 (Nat.le_refl 0) fun H locs lsA hR hL => ?_
  have hf : xfin X = (some (.int v), t1) := hp.2.2.2 rfl
  exact (hX.rt H locs lsA p2 (by rw [hf]; exact hR)).2.1 v .int (by rw [hf]) rfl rfl hd
theorem csRetZ (hX : CX own cc nL (some .boolean) d X) {e : wEI} (he : CmpE nL X 0 pc p2 e) (hd : decode cc p2 = .ok (.ireturn, 1)) : CmpS nL X pc p1 pB pC (sRetZ e) := fun ls t o h hp => by
  obtain ⟨⟨v, t1⟩, h1, h⟩ := ob_some h
  dsimp only at h
  by_cases hv : v = 0 ∨ v = 1
  · rw [if_pos hv] at h
    cases h
    refine he ls [] t v t1 h1 (Nat.le_refl 0) fun H locs lsA hR hL => ?_
    have hf : xfin X = (some (.int v), t1) := hp.2.2.2 rfl
    exact (hX.rt H locs lsA p2 (by rw [hf]; exact hR)).2.1 v .boolean (by rw [hf]) rfl (by rcases hv with rfl | rfl <;> decide) hd
  · rw [if_neg hv] at h
    cases h
theorem csRetL (hX : CX own cc nL (some .long) d X) {e : wEL} (he : CmpL nL X 0 pc p2 e) (hd : decode cc p2 = .ok (.lreturn, 1)) : CmpS nL X pc p1 pB pC (sRetL e) := fun ls t o h hp => by
  obtain ⟨⟨v, t1⟩, h1, h⟩ := ob_some h
  cases h
  refine he ls [] t v t1 h1 (Nat.le_refl 0) fun H locs lsA hR hL => ?_
  have hf : xfin X = (some (.long v), t1) := hp.2.2.2 rfl
  exact (hX.rt H locs lsA p2 (by rw [hf]; exact hR)).2.2 v (by rw [hf]) rfl hd
theorem csRetV (hX : CX own cc nL none d X) (hd : decode cc pc = .ok (.return_, 1)) : CmpS nL X pc p1 pB pC sRetV := fun ls t o h hp => by
  cases h
  intro H locs lsA hR hL
  have hf : xfin X = (none, t) := hp.2.2.2 rfl
  exact (hX.rt H locs lsA pc (by rw [hf]; exact hR)).1 (by rw [hf]) rfl hd
theorem csDrop (hX : CX own cc nL ret d X) {e : wEI} (he : CmpE nL X 0 pc p1 e) (hd : decode cc p1 = .ok (.pop, 1)) : CmpS nL X pc (p1 + 1) pB pC (sDrop e) := fun ls t o h hp => by
  obtain ⟨⟨v, t1⟩, h1, h⟩ := ob_some h
  cases h
  exact he ls [] t v _ h1 (Nat.le_refl 0) fun H locs lsA hR hL => lv_pop hX.x hX.b hd rfl (hp.1 rfl H locs lsA hR hL)
theorem csCopy (hX : CX own cc nL ret d X) {a b : wER} {i j n : wEI} {ix : Nat} (ha : CmpR nL X 0 pc p1 a) (hi : CmpE nL X 1 p1 p2 i) (hb : CmpR nL X 2 p2 p3 b) (hj : CmpE nL X 3 p3 p4 j) (hn : CmpE nL X 4 p4 p5 n) (hl : Jvm.Cond.methodLink own ix arraycopyName ∈ w_ws) (hnat : Jvm.Cond.native arraycopyName ∈ w_ws) (hst : Jvm.Cond.static arraycopyName ∈ w_ws) (hin : Jvm.Cond.initialized "java/lang/System" ∈ w_ws) (hd : decode cc p5 = .ok (.invokestatic ix, 3)) : CmpS nL X pc (p5 + 3) pB pC (sCopy (gsh (xG X)) a i b j n) := fun ls t o h hp => by
  obtain ⟨⟨ra, t1⟩, h1, h⟩ := ob_some h
  obtain ⟨⟨vi, t2⟩, h2, h⟩ := ob_some h
  obtain ⟨⟨rb, t3⟩, h3, h⟩ := ob_some h
  obtain ⟨⟨vj, t4⟩, h4, h⟩ := ob_some h
  obtain ⟨⟨vn, t5⟩, h5, h⟩ := ob_some h
  dsimp only at h
  by_cases hc : (gsh (xG X) ra).1 = 1 ∧ (gsh (xG X) rb).1 = 1 ∧ ¬ vi < 0 ∧ ¬ vj < 0 ∧ ¬ vn < 0 ∧ vi.toNatClampNeg + vn.toNatClampNeg ≤ (gsh (xG X) ra).2 ∧ vj.toNatClampNeg + vn.toNatClampNeg ≤ (gsh (xG X) rb).2
  · rw [if_pos hc] at h
    cases h
    obtain ⟨c1, c2, c3, c4, c5, c6, c7⟩ := hc
    have hr := hX.room
    refine ha ls [] t ra t1 h1 (Nat.le_refl 0) (hi ls _ t1 vi t2 h2 (Nat.le_refl 1) (hb ls _ t2 rb t3 h3 (Nat.le_refl 2) (hj ls _ t3 vj t4 h4 (Nat.le_refl 3) (hn ls _ t4 vn t5 h5 (Nat.le_refl 4) fun H locs lsA hR hL => ?_))))
    refine va_copyi hX.x hX.b (by rw [hX.ml]; exact hL.2.1.symm) hX.ow (hX.ts _ hl) (hX.ts _ hnat) (hX.ts _ hst) (hX.ts _ hin) hX.K hR.1 hR.2.1 hR.2.2 ra rb 0 0 (w_at_arr t5 (sh_eq1 c1)) (w_at_arr t5 (sh_eq1 c2)) rfl rfl rfl c3 c4 c5 c6 c7 (fun _ _ => rfl) (by omega) ?_ hd (fun H1 locs1 hP hD hS => ?_)
    · have : ((([] : List Value).map (cv (ga (xG X)))).map (fun v => v.category)).sum + (nativeFrameWords "java/lang/System" "arraycopy" 5 + 11) ≤ 100 := by
        show (0 : Nat) + (nativeFrameWords "java/lang/System" "arraycopy" 5 + 11) ≤ 100
        decide +kernel
      omega
    · rw [w_setC (sh_eq1 c2)] at hP hD
      exact hp.1 rfl H1 locs1 lsA ⟨hP, hD, hS⟩ hL
  · rw [if_neg hc] at h
    cases h
/-! switches -/
theorem g_tabIn (hX : CX own cc nL ret d X) {dflt lo hi : Int} {offs : Array Int} {len tgt : Nat} {off : Int} {x : Int32} {ls : wL} {stk : List Value} {t : wS} (hd : decode cc pc = .ok (.tableswitch dflt lo hi offs, len)) (h1 : ¬ x.toInt < lo) (h2 : ¬ hi < x.toInt) (ho : offs[(x.toInt - lo).toNat]? = some off) (ht : (pc : Int) + off = (tgt : Int)) (k : Go nL X tgt ls stk t) : Go nL X pc ls (.int x :: stk) t := fun H locs lsA hR hL => lv_tableIn hX.x hX.b hd h1 h2 ho ht (k H locs lsA hR hL)
theorem g_tabOut (hX : CX own cc nL ret d X) {dflt lo hi : Int} {offs : Array Int} {len tgt : Nat} {x : Int32} {ls : wL} {stk : List Value} {t : wS} (hd : decode cc pc = .ok (.tableswitch dflt lo hi offs, len)) (h : x.toInt < lo ∨ hi < x.toInt) (ht : (pc : Int) + dflt = (tgt : Int)) (k : Go nL X tgt ls stk t) : Go nL X pc ls (.int x :: stk) t := fun H locs lsA hR hL => lv_tableOut hX.x hX.b hd h ht (k H locs lsA hR hL)
theorem g_look (hX : CX own cc nL ret d X) {dflt : Int} {ps : Array (Int × Int)} {len tgt : Nat} {off : Int} {x : Int32} {ls : wL} {stk : List Value} {t : wS} (hd : decode cc pc = .ok (.lookupswitch dflt ps, len)) (hp : (ps.toList.zip (ps.toList.drop 1)).all (fun (a, next) => a.1 < next.1) = true) (ho : Op.lookupswitch.offset ps.toList dflt x.toInt = off) (ht : (pc : Int) + off = (tgt : Int)) (k : Go nL X tgt ls stk t) : Go nL X pc ls (.int x :: stk) t := fun H locs lsA hR hL => lv_lookup hX.x hX.b hd hp ho ht (k H locs lsA hR hL)
theorem csSw {e : wEI} {cs : List (Int32 × wSt)} {dd : wSt} (he : CmpE nL X 0 pc p2 e) (hs : ∀ x : Int32, ∃ q : Nat, CmpS nL X q p1 p1 pC (wSwF x cs dd) ∧ ∀ (ls : wL) (t : wS), Go nL X q ls [] t → Go nL X p2 ls [.int x] t) : CmpS nL X pc p1 pB pC (sSw e cs dd) := fun ls t o h hp => by
  obtain ⟨⟨v, t1⟩, h1, h⟩ := ob_some h
  obtain ⟨o1, h2, h⟩ := ob_some h
  obtain ⟨q, hq, hgo⟩ := hs v
  refine he ls [] t v t1 h1 (Nat.le_refl 0) (hgo ls t1 (hq ls t1 o1 h2 ?_))
  by_cases e1 : o1.1 = 1
  · rw [if_pos e1] at h
    cases h
    exact ⟨fun h => by omega, fun _ => hp.1 rfl, fun h => by omega, fun h => by omega⟩
  · rw [if_neg e1] at h
    cases h
    exact ⟨hp.1, fun h => absurd h e1, hp.2.2.1, hp.2.2.2⟩
theorem i_ne_toInt {x k : Int32} (h : ¬ x = k) : x.toInt ≠ k.toInt := fun e => h (Int32.toInt_inj.mp e)
end STMT
/-! A METHOD -/
theorem lv_args_mem : ∀ (vs : List Value) (i k : Nat) (v : Value), (∀ x ∈ vs, x.category = 1) → vs[k]? = some v → (i + k, v) ∈ lv_args i vs
  | [], _, _, _, _, h => by simp at h
  | a :: vs, i, 0, v, _, h => by
    simp only [List.getElem?_cons_zero, Option.some.injEq] at h
    subst h
    exact List.mem_cons_self
  | a :: vs, i, k + 1, v, hc, h => by
    simp only [List.getElem?_cons_succ] at h
    have ha : a.category = 1 := hc a List.mem_cons_self
    have := lv_args_mem vs (i + 1) k v (fun x hx => hc x (List.mem_cons_of_mem _ hx)) h
    refine List.mem_cons_of_mem _ ?_
    rw [if_neg (by omega), show i + (k + 1) = i + 1 + k by omega]
    exact this
theorem lg_sl_len : ∀ vs : List Value, (∀ x ∈ vs, x.category = 1) → (lg_sl vs).length = vs.length
  | [], _ => rfl
  | a :: vs, h => by
    have := lg_sl_len vs (fun x hx => h x (List.mem_cons_of_mem _ hx))
    have ha : a.category = 1 := h a List.mem_cons_self
    unfold lg_sl at this ⊢
    rw [List.flatMap_cons, if_neg (by omega), List.length_append, this]
    simp only [List.length_cons, List.length_nil]
    omega
theorem wIR_cat {v : Value} (h : wIR v = true) : v.category = 1 := by cases v <;> simp [wIR, Value.category] at h ⊢
theorem w_entry {G : wG} {nL : Nat} {vs : List Value} (hn : vs.length ≤ nL) (hv : vs.all wIR = true) : LsOK (ga G) nL (vs ++ List.replicate (nL - vs.length) wjk) ((lg_sl (vs.map (cv (ga G))) ++ List.replicate (nL - (lg_sl (vs.map (cv (ga G)))).length) Slot.unset).toArray) := by
  have hc : ∀ x ∈ vs.map (cv (ga G)), x.category = 1 := by
    intro x hx
    obtain ⟨y, hy, rfl⟩ := List.mem_map.mp hx
    rw [cv_cat]
    exact wIR_cat (List.all_eq_true.mp hv y hy)
  have hlen := lg_sl_len _ hc
  rw [List.length_map] at hlen
  refine ⟨by simp only [List.length_append, List.length_replicate]; omega, lv_mono (lv_entry (vs.map (cv (ga G))) (by rw [hlen]; exact hn)) fun q hq => ?_⟩
  have hq1 := wlst_mem.mp hq
  have hk : q.1 < vs.length := by
    refine Nat.lt_of_not_le fun hle => ?_
    have hj : ∀ z, (vs ++ List.replicate (nL - vs.length) wjk)[q.1]? = some z → z = wjk := by
      intro z hz
      rw [List.getElem?_append_right hle] at hz
      exact List.eq_of_mem_replicate (List.mem_of_getElem? hz)
    unfold wkn at hq1
    split at hq1
    · rename_i y hy
      cases hj _ hy
    · rename_i y hy
      cases hj _ hy
    · rename_i y hy
      cases hj _ hy
    · cases hq1
  have hz : (vs ++ List.replicate (nL - vs.length) wjk)[q.1]? = some vs[q.1] := by rw [List.getElem?_append_left hk, List.getElem?_eq_getElem hk]
  have hir := List.all_eq_true.mp hv vs[q.1] (List.getElem_mem hk)
  have hcv : q.2 = cv (ga G) vs[q.1] := by
    unfold wkn at hq1
    rw [hz] at hq1
    cases hvk : vs[q.1] with
    | int x => rw [hvk] at hq1; exact (Option.some.inj hq1).symm
    | ref x => rw [hvk] at hq1; exact (Option.some.inj hq1).symm
    | _ => rw [hvk] at hir; cases hir
  have := lv_args_mem (vs.map (cv (ga G))) 0 q.1 (cv (ga G) vs[q.1]) hc (by rw [List.getElem?_map, List.getElem?_eq_getElem hk]; rfl)
  rw [Nat.zero_add, ← hcv] at this
  exact this
theorem mMet {y : MethodName} {cc : ByteArray} {nL : Nat} {ret : Option FieldType} {d pe pB pC : Nat} {b : (Nat → Nat × Nat) → wSt} (hy : plainFor y = true) (hd : 0 < d) (h : ∀ X : wX, CX y.cls cc nL ret d X → CmpS nL X 0 pe pB pC (b (gsh (xG X)))) : MetOK y cc nL ret d (fun sh => mDen nL (b sh)) := by
  intro l G t t1 vs r sz hden
  dsimp only at hden
  unfold mDen at hden
  by_cases hg : vs.length ≤ nL ∧ vs.all wIR = true
  · rw [if_pos hg] at hden
    obtain ⟨o, ho, hden⟩ := ob_some hden
    by_cases h3 : o.1 = 3
    · rw [if_pos h3] at hden
      refine va_MetF (cc := cc) (maxL := nL) (ret := ret) hy rfl ?_
      intro p e s m args below meth c s₁ B hml hv
      obtain ⟨rfl, hsz, hP, hK, hD, hF⟩ := hv
      subst hsz
      have hts : ∀ w ∈ w_ws, w.before (vs.map (cv (ga G))).toArray s = true := fun w hw => atoms_spec (ws := Cond.code y cc nL ret :: w_ws) B.pre w (List.mem_cons_of_mem _ hw)
      have hlocks := B.notSynchronized
      have hx := B.exec
      have hb := B.bytes
      have hr := B.returns
      let X : wX := ((p, l, e, (headSpec (Cond.code y cc nL ret :: w_ws) (wroom d)).room, s), (m, (vs.map (cv (ga G))).toArray, below, meth, c), MQ below (w_Qc G t t1 r s.heap.size) (vs.map (cv (ga G))).toArray s 0 0 (va_A (w_world G t) s.heap.size), G, (va_A (w_world G t) s.heap.size, s.heap), (r, t1), (0, 0))
      have hret : XRet cc ret X := by
        intro H locs lsA pc hR
        have hq : ∀ u : State, u.heap = H → w_Qc G t t1 r s.heap.size (vs.map (cv (ga G))).toArray s (.returned (r.map (cv (ga G)))) u := fun u hu => ⟨rfl, by rw [hu]; exact hR.1, hR.2.2.F hu⟩
        refine ⟨fun h1 h2 h3 => ?_, fun v ty h1 h2 hn h3 => ?_, fun v h1 h2 h3 => ?_⟩
        · have h1 : r = none := h1
          subst h1
          exact W.vret hx hb (hr.trans h2) (fun u hu _ => hq u hu) hR.2.2.2.2 h3 hlocks
        · have h1 : r = some (.int v) := h1
          subst h1
          exact W.zret hx hb (hr.trans h2) hn (fun u hu _ => hq u hu) hR.2.2.2.2 h3 hlocks
        · have h1 : r = some (.long v) := h1
          subst h1
          exact W.lret hx hb (hr.trans h2) (fun u hu _ => hq u hu) hR.2.2.2.2 h3 hlocks
      have hCX : CX y.cls cc nL ret d X := ⟨hx, hb, hml, findClass_of_methodNamed B.named, hts, hK, ⟨Nat.le_refl _, Nat.le_refl _, hd⟩, ⟨Nat.zero_le _, Nat.zero_le _⟩, hF, fun q hq => Or.inr hq, rfl, hret⟩
      have hgo : Go nL X 0 (vs ++ List.replicate (nL - vs.length) wjk) [] t := h X hCX _ t o ho ⟨fun h => by omega, fun h => by omega, fun h => by omega, fun _ => by
        cases hden
        rfl⟩
      rw [lg_entry_eq]
      exact hgo s.heap [] _ ⟨hP, hD.self, va_S.rf⟩ (w_entry hg.1 hg.2)
    · rw [if_neg h3] at hden
      cases hden
  · rw [if_neg hg] at hden
    cases hden
