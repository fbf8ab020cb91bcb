/-! CONTRACTS: what a method's walk shows, and how a call uses it -/
def wroom (d : Nat) : Room := { frames := d, cells := 0, slots := 0, locals := 100 * d }
def w_Pc (G : wG) (t : wS) (vs : List Value) (sz : Nat) : Array Value → State → Prop := va_Pc (vs.map (cv (ga G))) (fun U => U.heap.size = sz ∧ va_P (gD G) vwCl (w_world G t) U.heap ∧ va_K (gD G) vwCl (wtys G) U ∧ va_D (fun _ => True) (w_world G t) ∧ wFacts G (va_A (w_world G t) sz) U U.heap)
def w_Qc (G : wG) (t t1 : wS) (r : Option Value) (sz : Nat) : Array Value → State → Outcome → State → Prop := fun _ st oc u => oc = .returned (r.map (cv (ga G))) ∧ va_P (gD G) vwCl (w_world G t1) u.heap ∧ va_F (va_A (w_world G t) sz) st u
/-- THE CONTRACT: where its meaning has an answer, the method comes to its end with it, over any addresses -/
def MetOK (y : MethodName) (cc : ByteArray) (nL : Nat) (ret : Option FieldType) (d : Nat) (den : (Nat → Nat × Nat) → wM) : Prop :=
  ∀ (l : Launch) (G : wG) (t t1 : wS) (vs : List Value) (r : Option Value) (sz : Nat), den (gsh G) vs t = some (r, t1) → Met l y (Cond.code y cc nL ret :: w_ws) (wroom d) (w_Pc G t vs sz) (w_Qc G t t1 r sz) 0 0 (va_A (w_world G t) sz)
theorem w_blind (G : wG) (t : wS) (vs : List Value) (sz : Nat) : FrameBlind (w_Pc G t vs sz) := fun a U g mk h => by
  obtain ⟨h1, h2, h3, h4, h5, h6⟩ := h
  exact ⟨h1, h2, h3, va_K.moved (u := U) (U := U.calling g mk a) (Vm.Alike.refl U.vm) h4, h5, wFacts.same (u := U) (U := U.calling g mk a) rfl h6⟩
section CALL
variable {own : String} {cc : ByteArray} {nL : Nat} {ret : Option FieldType} {d : Nat} {X : wX} {w pc p1 p2 p3 p4 p5 pT pF pE pB pC pM : Nat}
theorem w_sub {t : wS} {H : Heap} {locs : List Loc} (hX : CX own cc nL ret d X) (hR : RepH X t H locs) : ∀ q, va_A (w_world (xG X) t) H.size q → xA X q := by
  intro q hq
  rcases hq with ⟨k, e, h⟩ | h
  · exact hR.2.1.2 k (q, e) h
  · exact hX.hA q (Nat.le_trans hR.2.2.1 h)
theorem w_pre {t : wS} {vs : List Value} {H : Heap} {locs : List Loc} (hX : CX own cc nL ret d X) (hR : RepH X t H locs) (U : State) (hU : U.heap = H) (hW : (xs X).WarmedH U.vm) : w_Pc (xG X) t vs H.size (vs.map (cv (ga (xG X)))).toArray U := by
  refine ⟨rfl, by rw [hU], by rw [hU]; exact hR.1, va_K.moved hW.alike hX.K, hR.2.1.weaken (fun _ _ _ _ => trivial), ?_⟩
  rw [hU]
  have h1 := hX.facts
  rw [← hX.H0] at h1
  exact ((h1.kept (fun a ha hA => hR.2.2.2.1 a ha hA)).narrow (w_sub hX hR)).warm hW
theorem g_run (hX : CX own cc nL ret d X) {t t1 : wS} {r : Option Value} {H : Heap} {locs : List Loc} {lsA : Array Slot} {st0 rest : List Value} {a0 : Array Value} (hR : RepH X t H locs)
    (hr : va_Run (xp X) (xl X) (xe X) (xR X) (xs X) (xm X) (xa X) (xb X) (xme X) (xc X) H locs (xcl X) (xsl X) 0 0 (F0 (xm X) pc lsA st0) rest (w_Qc (xG X) t t1 r H.size a0) (va_A (w_world (xG X) t) H.size))
    (kk : ∀ (H1 : Heap) (locs1 : List Loc), RepH X t1 H1 locs1 → WW X H1 locs1 (F0 (xm X) (pc + 3) lsA ((r.map (cv (ga (xG X)))).toList ++ rest))) : WW X H locs (F0 (xm X) pc lsA st0) := by
  intro T hT Xs
  obtain ⟨v, st₀, u, T', L, h0, X', hL, e1, e2, ⟨hv, hP1, hz, hk⟩, st⟩ := hr T hT Xs
  have hv' : v = r.map (cv (ga (xG X))) := Outcome.returned.inj hv
  subst hv'
  rw [h0] at hz hk
  have hsub := w_sub hX hR
  obtain ⟨t2, a1, b1⟩ := kk T'.heap (locs ++ L) ⟨by rw [e1]; exact hP1, w_D t1 hR.2.1, Nat.le_trans hR.2.2.1 (by rw [e1]; exact hz), fun q h1 h2 => by rw [e1, hk q (Nat.lt_of_lt_of_le h1 hR.2.2.1) (fun z => h2 (hsub q z))]; exact hR.2.2.2.1 q h1 h2, fun q hq => by
      rcases List.mem_append.mp hq with h | h
      · exact hR.2.2.2.2 q h
      · exact hsub _ (hL q h)⟩ T' rfl X'
  exact ⟨t2, st t2 a1, b1⟩
theorem aO_some {sh : Nat → Nat × Nat} {ci : Nat} {e : wER} {r : wAr} {ls : wL} {t t1 : wS} {vs : List Value} (h : aO sh ci e r ls t = some (vs, t1)) : ∃ (b : Nat) (As : List Value), vs = .ref b :: As ∧ sh b = (0, ci) := by
  obtain ⟨⟨b, t2⟩, -, h⟩ := ob_some h
  dsimp only at h
  by_cases hc : sh b = (0, ci)
  · rw [if_pos hc] at h
    obtain ⟨⟨As, t3⟩, -, h⟩ := ob_some h
    cases h
    exact ⟨b, As, rfl, hc⟩
  · rw [if_neg hc] at h
    cases h
/-- the words of a callee -/
theorem w_callB (hX : CX own cc nL ret d X) {y : MethodName} {cc' : ByteArray} {nL' n i d' : Nat} {ret' : Option FieldType} (hl : Jvm.Cond.methodLink own i y ∈ w_ws) (hcd : Jvm.Cond.code y cc' nL' ret' ∈ w_ws) (hn : Jvm.Cond.initialized y.cls ∈ w_ws)
    (hy : y.cls ≠ "java/lang/invoke/MethodHandle" ∧ y.cls ≠ "java/lang/invoke/VarHandle" ∧ (parseMethodDescriptor y.desc).map (fun d => d.parameters.length) = some n) (hd' : d' + 1 ≤ d) (hnL : nL' ≤ 81) :
    CallB (xR X) (xs X) (xa X) own i y cc' nL' ret' (Cond.code y cc' nL' ret' :: w_ws) (wroom d') 0 0 n := by
  have hr := hX.room
  refine ⟨rfl, rfl, by show d' + 1 ≤ _; omega, by show 8 + (nL' + 11) + 100 * d' ≤ _; omega, ?_, List.mem_cons_self, hX.ts _ hcd, hX.ts _ hn, ⟨hy.1, hy.2.1⟩, fun sig h => ?_, hX.ts _ hl⟩
  · intro w hw a' U hW
    rcases List.mem_cons.mp hw with rfl | hw
    · exact word_at hW (w_ws_good _ hcd) (hX.ts _ hcd)
    · exact word_at hW (w_ws_good _ hw) (hX.ts _ hw)
  · have h2 := hy.2.2
    rw [h] at h2
    exact (Option.some.inj h2).symm
theorem g_callV (hX : CX own cc nL ret d X) {y : MethodName} {cc' : ByteArray} {nL' n i d' ci : Nat} {ret' : Option FieldType} {den : (Nat → Nat × Nat) → wM} {C : String} {T : u_T} {N : Nat} (hM : MetOK y cc' nL' ret' d' den) (hl : Jvm.Cond.methodLink own i y ∈ w_ws) (hi : Jvm.Cond.instanceMethod y ∈ w_ws) (hv : Jvm.Cond.selects C y y ∈ w_ws) (hcd : Jvm.Cond.code y cc' nL' ret' ∈ w_ws) (hn : Jvm.Cond.initialized y.cls ∈ w_ws)
    (hy : y.cls ≠ "java/lang/invoke/MethodHandle" ∧ y.cls ≠ "java/lang/invoke/VarHandle" ∧ (parseMethodDescriptor y.desc).map (fun d => d.parameters.length) = some n) (hd' : d' + 1 ≤ d) (hnL : nL' ≤ 81) (hc : vwCl[ci]? = some (C, T, N)) (hd : decode cc pc = .ok (.invokevirtual i, 3))
    {b : Nat} {As stk : List Value} {ls : wL} {t t1 : wS} {r : Option Value} (hb : gsh (xG X) b = (0, ci)) (hAs : As.length = n) (hw : wcat stk ≤ 8) (hden : den (gsh (xG X)) (.ref b :: As) t = some (r, t1)) (k : Go nL X (pc + 3) ls (r.toList ++ stk) t1) : Go nL X pc ls ((.ref b :: As).reverse ++ stk) t := by
  intro H locs lsA hR hL
  have hstk : ((Value.ref b :: As).reverse ++ stk).map (cv (ga (xG X))) = (As.map (cv (ga (xG X)))).reverse ++ .ref (ga (xG X) b) :: stk.map (cv (ga (xG X))) := by simp [List.map_reverse, cv]
  rw [hstk]
  refine g_run hX hR (r := r) (t1 := t1) (rest := stk.map (cv (ga (xG X)))) (va_runV (C := C) (y := y) (bytes := cc') (maxL := nL') (ret := ret') (As := As.map (cv (ga (xG X)))) (rest := stk.map (cv (ga (xG X)))) (Pc := w_Pc (xG X) t (.ref b :: As) H.size) (Qc := w_Qc (xG X) t t1 r H.size) ⟨hX.x, hX.b, hX.ml, hX.ow, hX.ts⟩ (hM (xl X) (xG X) t t1 _ r H.size hden) ⟨w_callB hX hl hcd hn hy hd' hnL, hX.ts _ hi, hX.ts _ hv⟩ ⟨w_blind _ _ _ _, ?_, fun U hU hW => w_pre hX hR U hU hW⟩ rfl (by rw [List.length_map]; exact hAs) hL.2.1 rfl (lv_room (by rw [wcat_cv]; exact hw)) hd ⟨hX.space.1, hX.space.2⟩) (fun H1 locs1 hR1 => ?_)
  · exact va_recv hX.K hR.1 hc (w_at_obj t hb)
  · have h := k H1 locs1 lsA hR1 hL
    rw [List.map_append] at h
    cases r with
    | none => exact h
    | some z => exact h
theorem g_callS (hX : CX own cc nL ret d X) {y : MethodName} {cc' : ByteArray} {nL' n i d' : Nat} {ret' : Option FieldType} {den : (Nat → Nat × Nat) → wM} (hM : MetOK y cc' nL' ret' d' den) (hl : Jvm.Cond.methodLink own i y ∈ w_ws) (hi : Jvm.Cond.static y ∈ w_ws) (hcd : Jvm.Cond.code y cc' nL' ret' ∈ w_ws) (hn : Jvm.Cond.initialized y.cls ∈ w_ws)
    (hy : y.cls ≠ "java/lang/invoke/MethodHandle" ∧ y.cls ≠ "java/lang/invoke/VarHandle" ∧ (parseMethodDescriptor y.desc).map (fun d => d.parameters.length) = some n) (hd' : d' + 1 ≤ d) (hnL : nL' ≤ 81) (hd : decode cc pc = .ok (.invokestatic i, 3))
    {As stk : List Value} {ls : wL} {t t1 : wS} {r : Option Value} (hAs : As.length = n) (hw : wcat stk ≤ 8) (hden : den (gsh (xG X)) As t = some (r, t1)) (k : Go nL X (pc + 3) ls (r.toList ++ stk) t1) : Go nL X pc ls (As.reverse ++ stk) t := by
  intro H locs lsA hR hL
  have hstk : (As.reverse ++ stk).map (cv (ga (xG X))) = (As.map (cv (ga (xG X)))).reverse ++ stk.map (cv (ga (xG X))) := by simp [List.map_reverse]
  rw [hstk]
  refine g_run hX hR (r := r) (t1 := t1) (rest := stk.map (cv (ga (xG X)))) (va_runS (y := y) (bytes := cc') (maxL := nL') (ret := ret') (As := As.map (cv (ga (xG X)))) (rest := stk.map (cv (ga (xG X)))) (Pc := w_Pc (xG X) t As H.size) (Qc := w_Qc (xG X) t t1 r H.size) ⟨hX.x, hX.b, hX.ml, hX.ow, hX.ts⟩ (hM (xl X) (xG X) t t1 _ r H.size hden) ⟨w_callB hX hl hcd hn hy hd' hnL, hX.ts _ hi⟩ ⟨w_blind _ _ _ _, fun U hU hW => w_pre hX hR U hU hW⟩ rfl (by rw [List.length_map]; exact hAs) hL.2.1 rfl (lv_room (by rw [wcat_cv]; exact hw)) hd ⟨hX.space.1, hX.space.2⟩) (fun H1 locs1 hR1 => ?_)
  have h := k H1 locs1 lsA hR1 hL
  rw [List.map_append] at h
  cases r with
  | none => exact h
  | some z => exact h
/-! arguments -/
def CmpA2 (nL : Nat) (X : wX) (w pc p1 n : Nat) (e : wAr) : Prop := ∀ (ls : wL) (stk : List Value) (t : wS) (vs : List Value) (t1 : wS), e ls t = some (vs, t1) → vs.length = n ∧ (wcat stk ≤ w → Go nL X p1 ls (vs.reverse ++ stk) t1 → Go nL X pc ls stk t)
theorem cAN : CmpA2 nL X w pc pc 0 aN := fun ls stk t vs t1 h => by
  cases h
  exact ⟨rfl, fun _ k => k⟩
theorem cAI {n : Nat} {e : wEI} {r : wAr} (he : CmpE nL X w pc p1 e) (hr : CmpA2 nL X (w + 1) p1 p2 n r) : CmpA2 nL X w pc p2 (n + 1) (aI e r) := fun ls stk t vs t1 h => by
  obtain ⟨⟨v, t2⟩, h1, h⟩ := ob_some h
  obtain ⟨⟨rs, t3⟩, h2, h⟩ := ob_some h
  cases h
  have h3 := hr ls (.int v :: stk) t2 rs _ h2
  refine ⟨by simp [h3.1], fun hw k => he ls stk t v t2 h1 hw (h3.2 (by rw [wcat_cons]; simp only [Value.category]; omega) ?_)⟩
  simpa using k
theorem cAR {n : Nat} {e : wER} {r : wAr} (he : CmpR nL X w pc p1 e) (hr : CmpA2 nL X (w + 1) p1 p2 n r) : CmpA2 nL X w pc p2 (n + 1) (aR e r) := fun ls stk t vs t1 h => by
  obtain ⟨⟨v, t2⟩, h1, h⟩ := ob_some h
  obtain ⟨⟨rs, t3⟩, h2, h⟩ := ob_some h
  cases h
  have h3 := hr ls (.ref v :: stk) t2 rs _ h2
  refine ⟨by simp [h3.1], fun hw k => he ls stk t v t2 h1 hw (h3.2 (by rw [wcat_cons]; simp only [Value.category]; omega) ?_)⟩
  simpa using k
theorem cAO {n ci : Nat} {e : wER} {r : wAr} (he : CmpR nL X w pc p1 e) (hr : CmpA2 nL X (w + 1) p1 p2 n r) : CmpA2 nL X w pc p2 (n + 1) (aO (gsh (xG X)) ci e r) := fun ls stk t vs t1 h => by
  obtain ⟨⟨v, t2⟩, h1, h⟩ := ob_some h
  dsimp only at h
  by_cases hc : gsh (xG X) v = (0, ci)
  · rw [if_pos hc] at h
    obtain ⟨⟨rs, t3⟩, h2, h⟩ := ob_some h
    cases h
    have h3 := hr ls (.ref v :: stk) t2 rs _ h2
    refine ⟨by simp [h3.1], fun hw k => he ls stk t v t2 h1 hw (h3.2 (by rw [wcat_cons]; simp only [Value.category]; omega) ?_)⟩
    simpa using k
  · rw [if_neg hc] at h
    cases h
theorem eCall_some {f : wM} {a : wAr} {ls : wL} {t t1 : wS} {v : Int32} (h : eCall f a ls t = some (v, t1)) : ∃ (vs : List Value) (t2 : wS), a ls t = some (vs, t2) ∧ f vs t2 = some (some (.int v), t1) := by
  obtain ⟨⟨vs, t2⟩, h1, h⟩ := ob_some h
  obtain ⟨⟨r, t3⟩, h2, h⟩ := ob_some h
  dsimp only at h
  split at h
  · rename_i x
    cases h
    exact ⟨vs, t2, h1, h2⟩
  · cases h
theorem eCallL_some {f : wM} {a : wAr} {ls : wL} {t t1 : wS} {v : Int64} (h : eCallL f a ls t = some (v, t1)) : ∃ (vs : List Value) (t2 : wS), a ls t = some (vs, t2) ∧ f vs t2 = some (some (.long v), t1) := by
  obtain ⟨⟨vs, t2⟩, h1, h⟩ := ob_some h
  obtain ⟨⟨r, t3⟩, h2, h⟩ := ob_some h
  dsimp only at h
  split at h
  · rename_i x
    cases h
    exact ⟨vs, t2, h1, h2⟩
  · cases h
theorem sCall_some {f : wM} {a : wAr} {ls : wL} {t : wS} {o : wO} (h : sCall f a ls t = some o) : ∃ (vs : List Value) (t2 t1 : wS), a ls t = some (vs, t2) ∧ f vs t2 = some (none, t1) ∧ o = (0, none, ls, t1) := by
  obtain ⟨⟨vs, t2⟩, h1, h⟩ := ob_some h
  obtain ⟨⟨r, t3⟩, h2, h⟩ := ob_some h
  dsimp only at h
  split at h
  · cases h
    exact ⟨vs, t2, _, h1, h2, rfl⟩
  · cases h
theorem cCallV (hX : CX own cc nL ret d X) {y : MethodName} {cc' : ByteArray} {nL' n i d' ci : Nat} {ret' : Option FieldType} {den : (Nat → Nat × Nat) → wM} {C : String} {T : u_T} {N : Nat} {e : wER} {as : wAr} (hM : MetOK y cc' nL' ret' d' den) (hl : Jvm.Cond.methodLink own i y ∈ w_ws) (hi : Jvm.Cond.instanceMethod y ∈ w_ws) (hv : Jvm.Cond.selects C y y ∈ w_ws) (hcd : Jvm.Cond.code y cc' nL' ret' ∈ w_ws) (hn : Jvm.Cond.initialized y.cls ∈ w_ws)
    (hy : y.cls ≠ "java/lang/invoke/MethodHandle" ∧ y.cls ≠ "java/lang/invoke/VarHandle" ∧ (parseMethodDescriptor y.desc).map (fun d => d.parameters.length) = some n) (hd' : d' + 1 ≤ d) (hnL : nL' ≤ 81) (hc : vwCl[ci]? = some (C, T, N)) (hw8 : w ≤ 8) (ha : CmpA2 nL X w pc p1 (n + 1) (aO (gsh (xG X)) ci e as)) (hd : decode cc p1 = .ok (.invokevirtual i, 3)) : CmpE nL X w pc (p1 + 3) (eCall (den (gsh (xG X))) (aO (gsh (xG X)) ci e as)) := by
  intro ls stk t v t1 he hw k
  obtain ⟨vs, t2, h1, h2⟩ := eCall_some he
  obtain ⟨b, As, rfl, hb⟩ := aO_some h1
  obtain ⟨h3, h4⟩ := ha ls stk t _ t2 h1
  exact h4 hw (g_callV hX hM hl hi hv hcd hn hy hd' hnL hc hd hb (by simpa using h3) (by omega) h2 k)
theorem cCallVL (hX : CX own cc nL ret d X) {y : MethodName} {cc' : ByteArray} {nL' n i d' ci : Nat} {ret' : Option FieldType} {den : (Nat → Nat × Nat) → wM} {C : String} {T : u_T} {N : Nat} {e : wER} {as : wAr} (hM : MetOK y cc' nL' ret' d' den) (hl : Jvm.Cond.methodLink own i y ∈ w_ws) (hi : Jvm.Cond.instanceMethod y ∈ w_ws) (hv : Jvm.Cond.selects C y y ∈ w_ws) (hcd : Jvm.Cond.code y cc' nL' ret' ∈ w_ws) (hn : Jvm.Cond.initialized y.cls ∈ w_ws)
    (hy : y.cls ≠ "java/lang/invoke/MethodHandle" ∧ y.cls ≠ "java/lang/invoke/VarHandle" ∧ (parseMethodDescriptor y.desc).map (fun d => d.parameters.length) = some n) (hd' : d' + 1 ≤ d) (hnL : nL' ≤ 81) (hc : vwCl[ci]? = some (C, T, N)) (hw8 : w ≤ 8) (ha : CmpA2 nL X w pc p1 (n + 1) (aO (gsh (xG X)) ci e as)) (hd : decode cc p1 = .ok (.invokevirtual i, 3)) : CmpL nL X w pc (p1 + 3) (eCallL (den (gsh (xG X))) (aO (gsh (xG X)) ci e as)) := by
  intro ls stk t v t1 he hw k
  obtain ⟨vs, t2, h1, h2⟩ := eCallL_some he
  obtain ⟨b, As, rfl, hb⟩ := aO_some h1
  obtain ⟨h3, h4⟩ := ha ls stk t _ t2 h1
  exact h4 hw (g_callV hX hM hl hi hv hcd hn hy hd' hnL hc hd hb (by simpa using h3) (by omega) h2 k)
theorem cCallS (hX : CX own cc nL ret d X) {y : MethodName} {cc' : ByteArray} {nL' n i d' : Nat} {ret' : Option FieldType} {den : (Nat → Nat × Nat) → wM} {as : wAr} (hM : MetOK y cc' nL' ret' d' den) (hl : Jvm.Cond.methodLink own i y ∈ w_ws) (hi : Jvm.Cond.static y ∈ w_ws) (hcd : Jvm.Cond.code y cc' nL' ret' ∈ w_ws) (hn : Jvm.Cond.initialized y.cls ∈ w_ws)
    (hy : y.cls ≠ "java/lang/invoke/MethodHandle" ∧ y.cls ≠ "java/lang/invoke/VarHandle" ∧ (parseMethodDescriptor y.desc).map (fun d => d.parameters.length) = some n) (hd' : d' + 1 ≤ d) (hnL : nL' ≤ 81) (hw8 : w ≤ 8) (ha : CmpA2 nL X w pc p1 n as) (hd : decode cc p1 = .ok (.invokestatic i, 3)) : CmpE nL X w pc (p1 + 3) (eCall (den (gsh (xG X))) as) := by
  intro ls stk t v t1 he hw k
  obtain ⟨vs, t2, h1, h2⟩ := eCall_some he
  obtain ⟨h3, h4⟩ := ha ls stk t _ t2 h1
  exact h4 hw (g_callS hX hM hl hi hcd hn hy hd' hnL hd h3 (by omega) h2 k)
theorem csCallV (hX : CX own cc nL ret d X) {y : MethodName} {cc' : ByteArray} {nL' n i d' ci : Nat} {ret' : Option FieldType} {den : (Nat → Nat × Nat) → wM} {C : String} {T : u_T} {N : Nat} {e : wER} {as : wAr} (hM : MetOK y cc' nL' ret' d' den) (hl : Jvm.Cond.methodLink own i y ∈ w_ws) (hi : Jvm.Cond.instanceMethod y ∈ w_ws) (hv : Jvm.Cond.selects C y y ∈ w_ws) (hcd : Jvm.Cond.code y cc' nL' ret' ∈ w_ws) (hn : Jvm.Cond.initialized y.cls ∈ w_ws)
    (hy : y.cls ≠ "java/lang/invoke/MethodHandle" ∧ y.cls ≠ "java/lang/invoke/VarHandle" ∧ (parseMethodDescriptor y.desc).map (fun d => d.parameters.length) = some n) (hd' : d' + 1 ≤ d) (hnL : nL' ≤ 81) (hc : vwCl[ci]? = some (C, T, N)) (ha : CmpA2 nL X 0 pc p1 (n + 1) (aO (gsh (xG X)) ci e as)) (hd : decode cc p1 = .ok (.invokevirtual i, 3)) : CmpS nL X pc (p1 + 3) pB pC (sCall (den (gsh (xG X))) (aO (gsh (xG X)) ci e as)) := by
  intro ls t o he hp
  obtain ⟨vs, t2, t1, h1, h2, rfl⟩ := sCall_some he
  obtain ⟨b, As, rfl, hb⟩ := aO_some h1
  obtain ⟨h3, h4⟩ := ha ls [] t _ t2 h1
  exact h4 (Nat.le_refl 0) (g_callV hX hM hl hi hv hcd hn hy hd' hnL hc hd hb (by simpa using h3) (by decide) h2 (hp.1 rfl))
theorem csCallS (hX : CX own cc nL ret d X) {y : MethodName} {cc' : ByteArray} {nL' n i d' : Nat} {ret' : Option FieldType} {den : (Nat → Nat × Nat) → wM} {as : wAr} (hM : MetOK y cc' nL' ret' d' den) (hl : Jvm.Cond.methodLink own i y ∈ w_ws) (hi : Jvm.Cond.static y ∈ w_ws) (hcd : Jvm.Cond.code y cc' nL' ret' ∈ w_ws) (hn : Jvm.Cond.initialized y.cls ∈ w_ws)
    (hy : y.cls ≠ "java/lang/invoke/MethodHandle" ∧ y.cls ≠ "java/lang/invoke/VarHandle" ∧ (parseMethodDescriptor y.desc).map (fun d => d.parameters.length) = some n) (hd' : d' + 1 ≤ d) (hnL : nL' ≤ 81) (ha : CmpA2 nL X 0 pc p1 n as) (hd : decode cc p1 = .ok (.invokestatic i, 3)) : CmpS nL X pc (p1 + 3) pB pC (sCall (den (gsh (xG X))) as) := by
  intro ls t o he hp
  obtain ⟨vs, t2, t1, h1, h2, rfl⟩ := sCall_some he
  obtain ⟨h3, h4⟩ := ha ls [] t _ t2 h1
  exact h4 (Nat.le_refl 0) (g_callS hX hM hl hi hcd hn hy hd' hnL hd h3 (by decide) h2 (hp.1 rfl))
end CALL
