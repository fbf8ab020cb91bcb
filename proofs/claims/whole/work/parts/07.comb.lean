section COMB
variable {own : String} {cc : ByteArray} {nL : Nat} {ret : Option FieldType} {d : Nat} {X : wX} {w pc p1 p2 p3 p4 p5 pT pF pE pB pC pM : Nat}
/-! ints -/
theorem cConst (hX : CX own cc nL ret d X) {n : Int} {v : Int32} (hd : decode cc pc = .ok (.iconst n, 1)) (hv : Int32.ofInt n = v) : CmpE nL X w pc (pc + 1) (eI v) := by
  intro ls stk t x t1 he _ k H locs lsA hR hL
  cases he
  exact lv_iconst hX.x hX.b hd hv (k H locs lsA hR hL)
theorem cBi (hX : CX own cc nL ret d X) {n : Int} {v : Int32} (hd : decode cc pc = .ok (.bipush n, 2)) (hv : (Int8.ofInt n).toInt32 = v) : CmpE nL X w pc (pc + 2) (eI v) := by
  intro ls stk t x t1 he _ k H locs lsA hR hL
  cases he
  exact lv_bipush hX.x hX.b hd hv (k H locs lsA hR hL)
theorem cSi (hX : CX own cc nL ret d X) {n : Int} {v : Int32} (hd : decode cc pc = .ok (.sipush n, 3)) (hv : (Int16.ofInt n).toInt32 = v) : CmpE nL X w pc (pc + 3) (eI v) := by
  intro ls stk t x t1 he _ k H locs lsA hR hL
  cases he
  exact lv_sipush hX.x hX.b hd hv (k H locs lsA hR hL)
theorem cLdc (hX : CX own cc nL ret d X) {i : Nat} {v : Int32} (hw : Jvm.Cond.constant own i v ∈ w_ws) (hd : decode cc pc = .ok (.ldc i, 2)) : CmpE nL X w pc (pc + 2) (eI v) := by
  intro ls stk t x t1 he _ k H locs lsA hR hL
  cases he
  exact lv_ldc hX.x hX.b hX.ow (hX.ts _ hw) hd (k H locs lsA hR hL)
theorem cLdcw (hX : CX own cc nL ret d X) {i : Nat} {v : Int32} (hw : Jvm.Cond.constant own i v ∈ w_ws) (hd : decode cc pc = .ok (.ldc_w i, 3)) : CmpE nL X w pc (pc + 3) (eI v) := by
  intro ls stk t x t1 he _ k H locs lsA hR hL
  cases he
  exact lv_ldcw hX.x hX.b hX.ow (hX.ts _ hw) hd (k H locs lsA hR hL)
theorem eLoc_some {k : Nat} {ls : wL} {t t1 : wS} {v : Int32} (h : eLoc k ls t = some (v, t1)) : ls[k]? = some (.int v) ∧ t1 = t := by
  unfold eLoc at h
  split at h
  · rename_i x hx
    cases h
    exact ⟨hx, rfl⟩
  · cases h
theorem eLocR_some {k : Nat} {ls : wL} {t t1 : wS} {v : Nat} (h : eLocR k ls t = some (v, t1)) : ls[k]? = some (.ref v) ∧ t1 = t := by
  unfold eLocR at h
  split at h
  · rename_i x hx
    cases h
    exact ⟨hx, rfl⟩
  · cases h
theorem eLocL_some {k : Nat} {ls : wL} {t t1 : wS} {v : Int64} (h : eLocL k ls t = some (v, t1)) : ls[k]? = some (.long v) ∧ ls[k + 1]? = some wjk ∧ t1 = t := by
  unfold eLocL at h
  split at h
  · rename_i x hx hy
    cases h
    exact ⟨hx, hy, rfl⟩
  · cases h
theorem cLoc_n (hX : CX own cc nL ret d X) {k : Fin 4} {i : Nat} (hd : decode cc pc = .ok (.iload_n k, 1)) (hi : (k : Nat) = i) : CmpE nL X w pc (pc + 1) (eLoc i) := by
  intro ls stk t x t1 he _ kk H locs lsA hR hL
  obtain ⟨h1, rfl⟩ := eLoc_some he
  exact lv_iload_n hX.x hX.b hd hi (hL.int h1) (kk H locs lsA hR hL)
theorem cLoc (hX : CX own cc nL ret d X) {i : Nat} (hd : decode cc pc = .ok (.iload i, 2)) : CmpE nL X w pc (pc + 2) (eLoc i) := by
  intro ls stk t x t1 he _ kk H locs lsA hR hL
  obtain ⟨h1, rfl⟩ := eLoc_some he
  exact lv_iload hX.x hX.b hd (hL.int h1) (kk H locs lsA hR hL)
theorem cLocR_n (hX : CX own cc nL ret d X) {k : Fin 4} {i : Nat} (hd : decode cc pc = .ok (.aload_n k, 1)) (hi : (k : Nat) = i) : CmpR nL X w pc (pc + 1) (eLocR i) := by
  intro ls stk t x t1 he _ kk H locs lsA hR hL
  obtain ⟨h1, rfl⟩ := eLocR_some he
  exact lv_aload_n hX.x hX.b hd hi (hL.ref h1) (kk H locs lsA hR hL)
theorem cLocR (hX : CX own cc nL ret d X) {i : Nat} (hd : decode cc pc = .ok (.aload i, 2)) : CmpR nL X w pc (pc + 2) (eLocR i) := by
  intro ls stk t x t1 he _ kk H locs lsA hR hL
  obtain ⟨h1, rfl⟩ := eLocR_some he
  exact lv_aload hX.x hX.b hd (hL.ref h1) (kk H locs lsA hR hL)
theorem cLocL_n (hX : CX own cc nL ret d X) {k : Fin 4} {i : Nat} (hd : decode cc pc = .ok (.lload_n k, 1)) (hi : (k : Nat) = i) : CmpL nL X w pc (pc + 1) (eLocL i) := by
  intro ls stk t x t1 he _ kk H locs lsA hR hL
  obtain ⟨h1, h2, rfl⟩ := eLocL_some he
  exact lv_lload_n hX.x hX.b hd hi (hL.long h1 h2) (kk H locs lsA hR hL)
theorem cLocL (hX : CX own cc nL ret d X) {i : Nat} (hd : decode cc pc = .ok (.lload i, 2)) : CmpL nL X w pc (pc + 2) (eLocL i) := by
  intro ls stk t x t1 he _ kk H locs lsA hR hL
  obtain ⟨h1, h2, rfl⟩ := eLocL_some he
  exact lv_lload hX.x hX.b hd (hL.long h1 h2) (kk H locs lsA hR hL)
/-- reads of fields: the value that the object's list of fields has -/
theorem w_fs_at {G : wG} {t : wS} {c ci k : Nat} (hk : k < wnf ci) : ((List.range (wnf ci)).map (w_fv (ga G) t c ci))[k]? = some (w_fv (ga G) t c ci k) := by
  rw [List.getElem?_map, List.getElem?_range hk]
  rfl
theorem cFld (hX : CX own cc nL ret d X) {C ref n ds : String} {T : u_T} {N ci k i : Nat} {a : wER} (ha : CmpR nL X w pc p1 a) (hc : vwCl[ci]? = some (C, T, N)) (hin : ∀ w ∈ u_ws C T N, w ∈ w_ws) (hN : wnf ci = N) (hk : k < N) (hkd : wkd ci k ≠ 2) (hT : T k = (ref, n, ds, (T k).2.2.2)) (hl : Jvm.Cond.fieldLink own i ref n ds ∈ w_ws) (hd : decode cc p1 = .ok (.getfield i, 3)) : CmpE nL X w pc (p1 + 3) (eFld (gsh (xG X)) ci k a) := by
  intro ls stk t x t1 he hw kk
  obtain ⟨⟨v, t2⟩, h1, h2⟩ := ob_some he
  refine ha ls stk t v t2 h1 hw fun H locs lsA hR hL => ?_
  dsimp only at h2
  by_cases hsh : gsh (xG X) v = (0, ci)
  · rw [if_pos hsh] at h2
    cases h2
    have e1 : (T k).1 = ref := by rw [hT]
    have e2 : (T k).2.1 = n := by rw [hT]
    have e3 : (T k).2.2.1 = ds := by rw [hT]
    exact va_get (own := own) (C := C) (T := T) (N := N) (ref := ref) hX.x hX.b hX.ts hin hX.ow hX.K hR.1 v (w_at_obj t1 hsh) hc k hk (by rw [e2, e3]; exact hX.ts _ hl) (fun x h => by rw [e1] at h; exact h) (v := .int (t1.1 v k)) (by rw [w_fs_at (by rw [hN]; exact hk)]; unfold w_fv; rw [if_neg hkd]) hd (kk H locs lsA hR hL)
  · rw [if_neg hsh] at h2
    cases h2
theorem cFldR (hX : CX own cc nL ret d X) {C ref n ds : String} {T : u_T} {N ci k i : Nat} {a : wER} (ha : CmpR nL X w pc p1 a) (hc : vwCl[ci]? = some (C, T, N)) (hin : ∀ w ∈ u_ws C T N, w ∈ w_ws) (hN : wnf ci = N) (hk : k < N) (hkd : wkd ci k = 2) (hT : T k = (ref, n, ds, (T k).2.2.2)) (hl : Jvm.Cond.fieldLink own i ref n ds ∈ w_ws) (hd : decode cc p1 = .ok (.getfield i, 3)) : CmpR nL X w pc (p1 + 3) (eFldR (gsh (xG X)) ci k a) := by
  intro ls stk t x t1 he hw kk
  obtain ⟨⟨v, t2⟩, h1, h2⟩ := ob_some he
  refine ha ls stk t v t2 h1 hw fun H locs lsA hR hL => ?_
  dsimp only at h2
  by_cases hsh : gsh (xG X) v = (0, ci) ∧ ¬ t2.2 v k = 5000
  · rw [if_pos hsh] at h2
    cases h2
    have e1 : (T k).1 = ref := by rw [hT]
    have e2 : (T k).2.1 = n := by rw [hT]
    have e3 : (T k).2.2.1 = ds := by rw [hT]
    exact va_get (own := own) (C := C) (T := T) (N := N) (ref := ref) hX.x hX.b hX.ts hin hX.ow hX.K hR.1 v (w_at_obj t1 hsh.1) hc k hk (by rw [e2, e3]; exact hX.ts _ hl) (fun x h => by rw [e1] at h; exact h) (v := .ref (ga (xG X) (t1.2 v k))) (by rw [w_fs_at (by rw [hN]; exact hk)]; unfold w_fv w_rf; rw [if_pos hkd, if_neg hsh.2]; rfl) hd (kk H locs lsA hR hL)
  · rw [if_neg hsh] at h2
    cases h2
theorem sh_eq1 {G : wG} {c : Nat} (h : (gsh G c).1 = 1) : gsh G c = (1, (gsh G c).2) := by rw [← h]
theorem cArr (hX : CX own cc nL ret d X) {a : wER} {i : wEI} (ha : CmpR nL X w pc p1 a) (hi : CmpE nL X (w + 1) p1 p2 i) (hd : decode cc p2 = .ok (.iaload, 1)) : CmpE nL X w pc (p2 + 1) (eArr (gsh (xG X)) a i) := by
  intro ls stk t x t1 he hw kk
  obtain ⟨⟨v, t2⟩, h1, he⟩ := ob_some he
  obtain ⟨⟨j, t3⟩, h2, he⟩ := ob_some he
  refine ha ls stk t v t2 h1 hw (hi ls _ t2 j t3 h2 (by rw [wcat_cons]; simp only [Value.category]; omega) fun H locs lsA hR hL => ?_)
  dsimp only at he
  by_cases hc : (gsh (xG X) v).1 = 1 ∧ wIn j (gsh (xG X) v).2 = true
  · rw [if_pos hc] at he
    cases he
    exact va_iald hX.x hX.b hX.K hR.1 v 0 (w_at_arr t1 (sh_eq1 hc.1)) rfl (wIn_in hc.2) hd (kk H locs lsA hR hL)
  · rw [if_neg hc] at he
    cases he
theorem va_ald2 {X : wX} {H : Heap} {locs : List Loc} {lsA : Array Slot} {rest : List Value} {cA : ClassId} {n a : Nat} {f : Nat → Option Nat} {q0 t0 : Nat} {ws : va_W} (hexec : (xp X).tables.exec = Jvm.exec) (hb : (xc X).code = cc) (hK : va_K (gD (xG X)) vwCl (wtys (xG X)) (xs X)) (hP : va_P (gD (xG X)) vwCl ws H) (ha : ws[q0]? = some (a, .inl (cA, n, .inr (.inr (.inr (.inr f)))))) (ht : (wtys (xG X))[t0]? = some (cA, .array .int)) {i : Int32} (hin : vp_in i n) (hdg : decode cc pc = .ok (.aaload, 1))
    (kk : WW X H locs (F0 (xm X) (pc + 1) lsA (va_rf (f i.toNatClampNeg) :: rest))) : WW X H locs (F0 (xm X) pc lsA (.int i :: .ref a :: rest)) := by
  have hlt : i.toNatClampNeg < n := Nat.not_le.mp fun q => hin (Or.inr q)
  exact W.aald (v := va_rf (f i.toNatClampNeg)) (ty := .array .int) hexec hb (hP q0 _ ha) ((hK.2 t0 _ ht).1 n (fun j => va_rf (f j))) rfl (fun q => by cases q) (by show ¬ (i < 0 ∨ (arrV _ _ _).slots.size ≤ _); rw [arrV_size]; exact hin) (by show (arrV _ _ _).slots[_]? = _; rw [arrV_read _ _ hlt]) rfl rfl hdg kk
theorem cArrR (hX : CX own cc nL ret d X) {a : wER} {i : wEI} (ha : CmpR nL X w pc p1 a) (hi : CmpE nL X (w + 1) p1 p2 i) (hd : decode cc p2 = .ok (.aaload, 1)) : CmpR nL X w pc (p2 + 1) (eArrR (gsh (xG X)) a i) := by
  intro ls stk t x t1 he hw kk
  obtain ⟨⟨v, t2⟩, h1, he⟩ := ob_some he
  obtain ⟨⟨j, t3⟩, h2, he⟩ := ob_some he
  refine ha ls stk t v t2 h1 hw (hi ls _ t2 j t3 h2 (by rw [wcat_cons]; simp only [Value.category]; omega) fun H locs lsA hR hL => ?_)
  dsimp only at he
  by_cases hc : ((gsh (xG X) v).1 = 2 ∨ (gsh (xG X) v).1 = 3) ∧ wIn j (gsh (xG X) v).2 = true ∧ ¬ t3.2 v j.toNatClampNeg = 5000
  · rw [if_pos hc] at he
    cases he
    rcases hc.1 with h | h
    · exact va_ald2 (t0 := 1) hX.x hX.b hX.K hR.1 (w_at_arr2 t1 (show gsh (xG X) v = (2, (gsh (xG X) v).2) by rw [← h])) rfl (wIn_in hc.2.1) hd (by show WW X H locs (F0 (xm X) (p2 + 1) lsA (va_rf (w_rf (ga (xG X)) (t1.2 v j.toNatClampNeg)) :: _)); unfold w_rf; rw [if_neg hc.2.2]; exact kk H locs lsA hR hL)
    · exact va_aldq hX.x hX.b hX.K hR.1 v 2 (w_at_arr3 t1 (show gsh (xG X) v = (3, (gsh (xG X) v).2) by rw [← h])) rfl (wIn_in hc.2.1) hd (by show WW X H locs (F0 (xm X) (p2 + 1) lsA (va_rf (w_rf (ga (xG X)) (t1.2 v j.toNatClampNeg)) :: _)); unfold w_rf; rw [if_neg hc.2.2]; exact kk H locs lsA hR hL)
  · rw [if_neg hc] at he
    cases he
theorem cLen (hX : CX own cc nL ret d X) {a : wER} (ha : CmpR nL X w pc p1 a) (hd : decode cc p1 = .ok (.arraylength, 1)) : CmpE nL X w pc (p1 + 1) (eLen (gsh (xG X)) a) := by
  intro ls stk t x t1 he hw kk
  obtain ⟨⟨v, t2⟩, h1, he⟩ := ob_some he
  refine ha ls stk t v t2 h1 hw fun H locs lsA hR hL => ?_
  dsimp only at he
  by_cases hc : (gsh (xG X) v).1 = 1
  · rw [if_pos hc] at he
    cases he
    exact va_alen hX.x hX.b hX.K hR.1 v 0 (w_at_arr t1 (sh_eq1 hc)) rfl rfl hd (kk H locs lsA hR hL)
  · rw [if_neg hc] at he
    cases he
theorem c_iadd (hX : CX own cc nL ret d X) {a b : wEI} (ha : CmpE nL X w pc p1 a) (hb : CmpE nL X (w + 1) p1 p2 b) (hd : decode cc p2 = .ok (.iadd, 1)) : CmpE nL X w pc (p2 + 1) (eB oAdd a b) := by
  intro ls stk t x t1 he hw kk
  obtain ⟨⟨v, t2⟩, h1, he⟩ := ob_some he
  obtain ⟨⟨j, t3⟩, h2, he⟩ := ob_some he
  cases he
  exact ha ls stk t v t2 h1 hw (hb ls _ t2 j _ h2 (by rw [wcat_cons]; simp only [Value.category]; omega) fun H locs lsA hR hL => lv_iadd hX.x hX.b hd (kk H locs lsA hR hL))
theorem c_isub (hX : CX own cc nL ret d X) {a b : wEI} (ha : CmpE nL X w pc p1 a) (hb : CmpE nL X (w + 1) p1 p2 b) (hd : decode cc p2 = .ok (.isub, 1)) : CmpE nL X w pc (p2 + 1) (eB oSub a b) := by
  intro ls stk t x t1 he hw kk
  obtain ⟨⟨v, t2⟩, h1, he⟩ := ob_some he
  obtain ⟨⟨j, t3⟩, h2, he⟩ := ob_some he
  cases he
  exact ha ls stk t v t2 h1 hw (hb ls _ t2 j _ h2 (by rw [wcat_cons]; simp only [Value.category]; omega) fun H locs lsA hR hL => lv_isub hX.x hX.b hd (kk H locs lsA hR hL))
theorem c_imul (hX : CX own cc nL ret d X) {a b : wEI} (ha : CmpE nL X w pc p1 a) (hb : CmpE nL X (w + 1) p1 p2 b) (hd : decode cc p2 = .ok (.imul, 1)) : CmpE nL X w pc (p2 + 1) (eB oMul a b) := by
  intro ls stk t x t1 he hw kk
  obtain ⟨⟨v, t2⟩, h1, he⟩ := ob_some he
  obtain ⟨⟨j, t3⟩, h2, he⟩ := ob_some he
  cases he
  exact ha ls stk t v t2 h1 hw (hb ls _ t2 j _ h2 (by rw [wcat_cons]; simp only [Value.category]; omega) fun H locs lsA hR hL => lv_imul hX.x hX.b hd (kk H locs lsA hR hL))
theorem c_iand (hX : CX own cc nL ret d X) {a b : wEI} (ha : CmpE nL X w pc p1 a) (hb : CmpE nL X (w + 1) p1 p2 b) (hd : decode cc p2 = .ok (.iand, 1)) : CmpE nL X w pc (p2 + 1) (eB oAnd a b) := by
  intro ls stk t x t1 he hw kk
  obtain ⟨⟨v, t2⟩, h1, he⟩ := ob_some he
  obtain ⟨⟨j, t3⟩, h2, he⟩ := ob_some he
  cases he
  exact ha ls stk t v t2 h1 hw (hb ls _ t2 j _ h2 (by rw [wcat_cons]; simp only [Value.category]; omega) fun H locs lsA hR hL => lv_iand hX.x hX.b hd (kk H locs lsA hR hL))
theorem c_ior (hX : CX own cc nL ret d X) {a b : wEI} (ha : CmpE nL X w pc p1 a) (hb : CmpE nL X (w + 1) p1 p2 b) (hd : decode cc p2 = .ok (.ior, 1)) : CmpE nL X w pc (p2 + 1) (eB oOr a b) := by
  intro ls stk t x t1 he hw kk
  obtain ⟨⟨v, t2⟩, h1, he⟩ := ob_some he
  obtain ⟨⟨j, t3⟩, h2, he⟩ := ob_some he
  cases he
  exact ha ls stk t v t2 h1 hw (hb ls _ t2 j _ h2 (by rw [wcat_cons]; simp only [Value.category]; omega) fun H locs lsA hR hL => lv_ior hX.x hX.b hd (kk H locs lsA hR hL))
theorem c_ixor (hX : CX own cc nL ret d X) {a b : wEI} (ha : CmpE nL X w pc p1 a) (hb : CmpE nL X (w + 1) p1 p2 b) (hd : decode cc p2 = .ok (.ixor, 1)) : CmpE nL X w pc (p2 + 1) (eB oXor a b) := by
  intro ls stk t x t1 he hw kk
  obtain ⟨⟨v, t2⟩, h1, he⟩ := ob_some he
  obtain ⟨⟨j, t3⟩, h2, he⟩ := ob_some he
  cases he
  exact ha ls stk t v t2 h1 hw (hb ls _ t2 j _ h2 (by rw [wcat_cons]; simp only [Value.category]; omega) fun H locs lsA hR hL => lv_ixor hX.x hX.b hd (kk H locs lsA hR hL))
theorem c_ishl (hX : CX own cc nL ret d X) {a b : wEI} (ha : CmpE nL X w pc p1 a) (hb : CmpE nL X (w + 1) p1 p2 b) (hd : decode cc p2 = .ok (.ishl, 1)) : CmpE nL X w pc (p2 + 1) (eB oShl a b) := by
  intro ls stk t x t1 he hw kk
  obtain ⟨⟨v, t2⟩, h1, he⟩ := ob_some he
  obtain ⟨⟨j, t3⟩, h2, he⟩ := ob_some he
  cases he
  exact ha ls stk t v t2 h1 hw (hb ls _ t2 j _ h2 (by rw [wcat_cons]; simp only [Value.category]; omega) fun H locs lsA hR hL => lv_ishl hX.x hX.b hd (kk H locs lsA hR hL))
theorem c_ishr (hX : CX own cc nL ret d X) {a b : wEI} (ha : CmpE nL X w pc p1 a) (hb : CmpE nL X (w + 1) p1 p2 b) (hd : decode cc p2 = .ok (.ishr, 1)) : CmpE nL X w pc (p2 + 1) (eB oShr a b) := by
  intro ls stk t x t1 he hw kk
  obtain ⟨⟨v, t2⟩, h1, he⟩ := ob_some he
  obtain ⟨⟨j, t3⟩, h2, he⟩ := ob_some he
  cases he
  exact ha ls stk t v t2 h1 hw (hb ls _ t2 j _ h2 (by rw [wcat_cons]; simp only [Value.category]; omega) fun H locs lsA hR hL => lv_ishr hX.x hX.b hd (kk H locs lsA hR hL))
theorem c_iushr (hX : CX own cc nL ret d X) {a b : wEI} (ha : CmpE nL X w pc p1 a) (hb : CmpE nL X (w + 1) p1 p2 b) (hd : decode cc p2 = .ok (.iushr, 1)) : CmpE nL X w pc (p2 + 1) (eB oUshr a b) := by
  intro ls stk t x t1 he hw kk
  obtain ⟨⟨v, t2⟩, h1, he⟩ := ob_some he
  obtain ⟨⟨j, t3⟩, h2, he⟩ := ob_some he
  cases he
  exact ha ls stk t v t2 h1 hw (hb ls _ t2 j _ h2 (by rw [wcat_cons]; simp only [Value.category]; omega) fun H locs lsA hR hL => lv_iushr hX.x hX.b hd rfl (kk H locs lsA hR hL))
theorem c_idiv (hX : CX own cc nL ret d X) {a b : wEI} (ha : CmpE nL X w pc p1 a) (hb : CmpE nL X (w + 1) p1 p2 b) (hd : decode cc p2 = .ok (.idiv, 1)) : CmpE nL X w pc (p2 + 1) (eD oDiv a b) := by
  intro ls stk t x t1 he hw kk
  obtain ⟨⟨v, t2⟩, h1, he⟩ := ob_some he
  obtain ⟨⟨j, t3⟩, h2, he⟩ := ob_some he
  dsimp only at he
  by_cases hj : j = 0
  · rw [if_pos hj] at he
    cases he
  · rw [if_neg hj] at he
    cases he
    exact ha ls stk t v t2 h1 hw (hb ls _ t2 j _ h2 (by rw [wcat_cons]; simp only [Value.category]; omega) fun H locs lsA hR hL => lv_idiv hX.x hX.b hd hj (kk H locs lsA hR hL))
theorem c_irem (hX : CX own cc nL ret d X) {a b : wEI} (ha : CmpE nL X w pc p1 a) (hb : CmpE nL X (w + 1) p1 p2 b) (hd : decode cc p2 = .ok (.irem, 1)) : CmpE nL X w pc (p2 + 1) (eD oRem a b) := by
  intro ls stk t x t1 he hw kk
  obtain ⟨⟨v, t2⟩, h1, he⟩ := ob_some he
  obtain ⟨⟨j, t3⟩, h2, he⟩ := ob_some he
  dsimp only at he
  by_cases hj : j = 0
  · rw [if_pos hj] at he
    cases he
  · rw [if_neg hj] at he
    cases he
    exact ha ls stk t v t2 h1 hw (hb ls _ t2 j _ h2 (by rw [wcat_cons]; simp only [Value.category]; omega) fun H locs lsA hR hL => lv_irem hX.x hX.b hd hj (kk H locs lsA hR hL))
theorem c_ineg (hX : CX own cc nL ret d X) {a : wEI} (ha : CmpE nL X w pc p1 a) (hd : decode cc p1 = .ok (.ineg, 1)) : CmpE nL X w pc (p1 + 1) (eU oNeg a) := by
  intro ls stk t x t1 he hw kk
  obtain ⟨⟨v, t2⟩, h1, he⟩ := ob_some he
  cases he
  exact ha ls stk t v t2 h1 hw fun H locs lsA hR hL => lv_ineg hX.x hX.b hd (kk H locs lsA hR hL)
theorem c_i2c (hX : CX own cc nL ret d X) {a : wEI} (ha : CmpE nL X w pc p1 a) (hd : decode cc p1 = .ok (.i2c, 1)) : CmpE nL X w pc (p1 + 1) (eU oI2c a) := by
  intro ls stk t x t1 he hw kk
  obtain ⟨⟨v, t2⟩, h1, he⟩ := ob_some he
  cases he
  exact ha ls stk t v t2 h1 hw fun H locs lsA hR hL => lv_i2c hX.x hX.b hd rfl (kk H locs lsA hR hL)
theorem c_max (hX : CX own cc nL ret d X) {a b : wEI} {i : Nat} (ha : CmpE nL X w pc p1 a) (hb : CmpE nL X (w + 1) p1 p2 b) (hw8 : w ≤ 8) (hl : Jvm.Cond.methodLink own i Lib.Math.max.name ∈ w_ws) (hs : Jvm.Cond.static Lib.Math.max.name ∈ w_ws) (hn : Jvm.Cond.initialized "java/lang/Math" ∈ w_ws) (hcd : Jvm.Cond.code Lib.Math.max.name Lib.Math.max.code 2 (some .int) ∈ w_ws) (hd : decode cc p2 = .ok (.invokestatic i, 3)) : CmpE nL X w pc (p2 + 3) (eB oMax a b) := by
  intro ls stk t x t1 he hw kk
  obtain ⟨⟨v, t2⟩, h1, he⟩ := ob_some he
  obtain ⟨⟨j, t3⟩, h2, he⟩ := ob_some he
  cases he
  have hr := hX.room
  exact ha ls stk t v t2 h1 hw (hb ls _ t2 j _ h2 (by rw [wcat_cons]; simp only [Value.category]; omega) fun H locs lsA hR hL => va_mmax hX.x hX.b (by rw [hX.ml]; exact hL.2.1.symm) hX.ow (hX.ts _ hl) (hX.ts _ hs) (hX.ts _ hn) (hX.ts _ hcd) (by omega) (by rw [wcat_cv]; omega) hX.space.1 hX.space.2 hd (kk H locs lsA hR hL))
theorem c_min (hX : CX own cc nL ret d X) {a b : wEI} {i : Nat} (ha : CmpE nL X w pc p1 a) (hb : CmpE nL X (w + 1) p1 p2 b) (hw8 : w ≤ 8) (hl : Jvm.Cond.methodLink own i Lib.Math.min.name ∈ w_ws) (hs : Jvm.Cond.static Lib.Math.min.name ∈ w_ws) (hn : Jvm.Cond.initialized "java/lang/Math" ∈ w_ws) (hcd : Jvm.Cond.code Lib.Math.min.name Lib.Math.min.code 2 (some .int) ∈ w_ws) (hd : decode cc p2 = .ok (.invokestatic i, 3)) : CmpE nL X w pc (p2 + 3) (eB oMin a b) := by
  intro ls stk t x t1 he hw kk
  obtain ⟨⟨v, t2⟩, h1, he⟩ := ob_some he
  obtain ⟨⟨j, t3⟩, h2, he⟩ := ob_some he
  cases he
  have hr := hX.room
  exact ha ls stk t v t2 h1 hw (hb ls _ t2 j _ h2 (by rw [wcat_cons]; simp only [Value.category]; omega) fun H locs lsA hR hL => va_mmin hX.x hX.b (by rw [hX.ml]; exact hL.2.1.symm) hX.ow (hX.ts _ hl) (hX.ts _ hs) (hX.ts _ hn) (hX.ts _ hcd) (by omega) (by rw [wcat_cv]; omega) hX.space.1 hX.space.2 hd (kk H locs lsA hR hL))
theorem c_abs (hX : CX own cc nL ret d X) {a : wEI} {i : Nat} (ha : CmpE nL X w pc p1 a) (hw8 : w ≤ 8) (hl : Jvm.Cond.methodLink own i Lib.Math.abs.name ∈ w_ws) (hs : Jvm.Cond.static Lib.Math.abs.name ∈ w_ws) (hn : Jvm.Cond.initialized "java/lang/Math" ∈ w_ws) (hcd : Jvm.Cond.code Lib.Math.abs.name Lib.Math.abs.code 1 (some .int) ∈ w_ws) (hd : decode cc p1 = .ok (.invokestatic i, 3)) : CmpE nL X w pc (p1 + 3) (eU oAbs a) := by
  intro ls stk t x t1 he hw kk
  obtain ⟨⟨v, t2⟩, h1, he⟩ := ob_some he
  cases he
  have hr := hX.room
  exact ha ls stk t v t2 h1 hw fun H locs lsA hR hL => va_mabs hX.x hX.b (by rw [hX.ml]; exact hL.2.1.symm) hX.ow (hX.ts _ hl) (hX.ts _ hs) (hX.ts _ hn) (hX.ts _ hcd) (by omega) (by rw [wcat_cv]; omega) hX.space.1 hX.space.2 hd (kk H locs lsA hR hL)
/-! conditions -/
theorem g_icmp (hX : CX own cc nL ret d X) {c : ClassFile.Cond} {off : Int} {tgt : Nat} {x y : Int32} {ls : wL} {stk : List Value} {t : wS} (hd : decode cc pc = .ok (.if_icmp c off, 3)) (ht : (pc : Int) + off = (tgt : Int)) (kt : wcmp c x y = true → Go nL X tgt ls stk t) (kf : wcmp c x y = false → Go nL X (pc + 3) ls stk t) : Go nL X pc ls (.int y :: .int x :: stk) t := by
  intro H locs lsA hR hL
  cases c with
  | eq => exact lv_icmp_eq hX.x hX.b hd ht (fun h => kt (by simp [wcmp, h]) H locs lsA hR hL) (fun h => kf (by simp [wcmp, h]) H locs lsA hR hL)
  | ne => exact lv_icmp_ne hX.x hX.b hd ht (fun h => kt (by simp [wcmp, h]) H locs lsA hR hL) (fun h => kf (by simp [wcmp, h]) H locs lsA hR hL)
  | lt => exact lv_icmp_lt hX.x hX.b hd ht (fun h => kt (by simp [wcmp, h]) H locs lsA hR hL) (fun h => kf (by simp only [wcmp, decide_eq_false_iff_not]; exact h) H locs lsA hR hL)
  | ge => exact lv_icmp_ge hX.x hX.b hd ht (fun h => kt (by simp [wcmp, h]) H locs lsA hR hL) (fun h => kf (by simp only [wcmp, decide_eq_false_iff_not]; exact h) H locs lsA hR hL)
  | gt => exact lv_icmp_gt hX.x hX.b hd ht (fun h => kt (by simp [wcmp, h]) H locs lsA hR hL) (fun h => kf (by simp only [wcmp, decide_eq_false_iff_not]; exact h) H locs lsA hR hL)
  | le => exact lv_icmp_le hX.x hX.b hd ht (fun h => kt (by simp [wcmp, h]) H locs lsA hR hL) (fun h => kf (by simp only [wcmp, decide_eq_false_iff_not]; exact h) H locs lsA hR hL)
theorem g_ifc (hX : CX own cc nL ret d X) {c : ClassFile.Cond} {off : Int} {tgt : Nat} {x : Int32} {ls : wL} {stk : List Value} {t : wS} (hd : decode cc pc = .ok (.ifCond c off, 3)) (ht : (pc : Int) + off = (tgt : Int)) (kt : wcmp c x 0 = true → Go nL X tgt ls stk t) (kf : wcmp c x 0 = false → Go nL X (pc + 3) ls stk t) : Go nL X pc ls (.int x :: stk) t := by
  intro H locs lsA hR hL
  cases c with
  | eq => exact lv_if_eq hX.x hX.b hd ht (fun h => kt (by simp [wcmp, h]) H locs lsA hR hL) (fun h => kf (by simp [wcmp, h]) H locs lsA hR hL)
  | ne => exact lv_if_ne hX.x hX.b hd ht (fun h => kt (by simp [wcmp, h]) H locs lsA hR hL) (fun h => kf (by simp [wcmp, h]) H locs lsA hR hL)
  | lt => exact lv_if_lt hX.x hX.b hd ht (fun h => kt (by simp [wcmp, h]) H locs lsA hR hL) (fun h => kf (by simp only [wcmp, decide_eq_false_iff_not]; exact h) H locs lsA hR hL)
  | ge => exact lv_if_ge hX.x hX.b hd ht (fun h => kt (by simp [wcmp, h]) H locs lsA hR hL) (fun h => kf (by simp only [wcmp, decide_eq_false_iff_not]; exact h) H locs lsA hR hL)
  | gt => exact lv_if_gt hX.x hX.b hd ht (fun h => kt (by simp [wcmp, h]) H locs lsA hR hL) (fun h => kf (by simp only [wcmp, decide_eq_false_iff_not]; exact h) H locs lsA hR hL)
  | le => exact lv_if_le hX.x hX.b hd ht (fun h => kt (by simp [wcmp, h]) H locs lsA hR hL) (fun h => kf (by simp only [wcmp, decide_eq_false_iff_not]; exact h) H locs lsA hR hL)
theorem g_goto (hX : CX own cc nL ret d X) {off : Int} {tgt : Nat} {ls : wL} {stk : List Value} {t : wS} (hd : decode cc pc = .ok (.goto off, 3)) (ht : (pc : Int) + off = (tgt : Int)) (k : Go nL X tgt ls stk t) : Go nL X pc ls stk t := fun H locs lsA hR hL => lv_goto hX.x hX.b hd ht (k H locs lsA hR hL)
theorem ccI_t (hX : CX own cc nL ret d X) {c : ClassFile.Cond} {a b : wEI} {off : Int} (ha : CmpE nL X w pc p1 a) (hb : CmpE nL X (w + 1) p1 p2 b) (hd : decode cc p2 = .ok (.if_icmp c off, 3)) (ht : (p2 : Int) + off = (pT : Int)) : CmpC nL X w pc pT (p2 + 3) (cI c a b) := by
  intro ls stk t x t1 he hw kt kf
  obtain ⟨⟨v, t2⟩, h1, he⟩ := ob_some he
  obtain ⟨⟨j, t3⟩, h2, he⟩ := ob_some he
  cases he
  exact ha ls stk t v t2 h1 hw (hb ls _ t2 j _ h2 (by rw [wcat_cons]; simp only [Value.category]; omega) (g_icmp hX hd ht kt kf))
theorem ccI_f (hX : CX own cc nL ret d X) {c c' : ClassFile.Cond} {a b : wEI} {off : Int} (ha : CmpE nL X w pc p1 a) (hb : CmpE nL X (w + 1) p1 p2 b) (hd : decode cc p2 = .ok (.if_icmp c' off, 3)) (hc : wneg c = c') (ht : (p2 : Int) + off = (pF : Int)) : CmpC nL X w pc (p2 + 3) pF (cI c a b) := by
  subst hc
  intro ls stk t x t1 he hw kt kf
  obtain ⟨⟨v, t2⟩, h1, he⟩ := ob_some he
  obtain ⟨⟨j, t3⟩, h2, he⟩ := ob_some he
  cases he
  exact ha ls stk t v t2 h1 hw (hb ls _ t2 j _ h2 (by rw [wcat_cons]; simp only [Value.category]; omega) (g_icmp hX hd ht (fun h => kf (by rw [wcmp_neg] at h; simpa using h)) (fun h => kt (by rw [wcmp_neg] at h; simpa using h))))
theorem ccZ_t (hX : CX own cc nL ret d X) {c : ClassFile.Cond} {a : wEI} {off : Int} (ha : CmpE nL X w pc p1 a) (hd : decode cc p1 = .ok (.ifCond c off, 3)) (ht : (p1 : Int) + off = (pT : Int)) : CmpC nL X w pc pT (p1 + 3) (cZ c a) := by
  intro ls stk t x t1 he hw kt kf
  obtain ⟨⟨v, t2⟩, h1, he⟩ := ob_some he
  cases he
  exact ha ls stk t v _ h1 hw (g_ifc hX hd ht kt kf)
theorem ccZ_f (hX : CX own cc nL ret d X) {c c' : ClassFile.Cond} {a : wEI} {off : Int} (ha : CmpE nL X w pc p1 a) (hd : decode cc p1 = .ok (.ifCond c' off, 3)) (hc : wneg c = c') (ht : (p1 : Int) + off = (pF : Int)) : CmpC nL X w pc (p1 + 3) pF (cZ c a) := by
  subst hc
  intro ls stk t x t1 he hw kt kf
  obtain ⟨⟨v, t2⟩, h1, he⟩ := ob_some he
  cases he
  exact ha ls stk t v _ h1 hw (g_ifc hX hd ht (fun h => kf (by rw [wcmp_neg] at h; simpa using h)) (fun h => kt (by rw [wcmp_neg] at h; simpa using h)))
theorem ccAnd {a b : wC} (ha : CmpC nL X w pc pM pF a) (hb : CmpC nL X w pM pT pF b) : CmpC nL X w pc pT pF (cAnd a b) := by
  intro ls stk t x t1 he hw kt kf
  obtain ⟨⟨v, t2⟩, h1, he⟩ := ob_some he
  cases v with
  | true => exact ha ls stk t _ _ h1 hw (fun _ => hb ls stk _ _ _ he hw kt kf) (fun h => by cases h)
  | false =>
    cases he
    exact ha ls stk t _ _ h1 hw (fun h => by cases h) kf
theorem ccOr {a b : wC} (ha : CmpC nL X w pc pT pM a) (hb : CmpC nL X w pM pT pF b) : CmpC nL X w pc pT pF (cOr a b) := by
  intro ls stk t x t1 he hw kt kf
  obtain ⟨⟨v, t2⟩, h1, he⟩ := ob_some he
  cases v with
  | false => exact ha ls stk t _ _ h1 hw (fun h => by cases h) (fun _ => hb ls stk _ _ _ he hw kt kf)
  | true =>
    cases he
    exact ha ls stk t _ _ h1 hw kt (fun h => by cases h)
theorem ccNot {a : wC} (ha : CmpC nL X w pc pF pT a) : CmpC nL X w pc pT pF (cNot a) := by
  intro ls stk t x t1 he hw kt kf
  obtain ⟨⟨v, t2⟩, h1, he⟩ := ob_some he
  cases he
  exact ha ls stk t _ _ h1 hw (fun h => kf (by simp [h])) (fun h => kt (by simp [h]))
theorem ccIf {c a b : wC} {pA pB : Nat} (hc : CmpC nL X w pc pA pB c) (ha : CmpC nL X w pA pT pF a) (hb : CmpC nL X w pB pT pF b) : CmpC nL X w pc pT pF (cIf c a b) := by
  intro ls stk t x t1 he hw kt kf
  obtain ⟨⟨v, t2⟩, h1, he⟩ := ob_some he
  cases v with
  | true => exact hc ls stk t _ _ h1 hw (fun _ => ha ls stk _ _ _ he hw kt kf) (fun h => by cases h)
  | false => exact hc ls stk t _ _ h1 hw (fun h => by cases h) (fun _ => hb ls stk _ _ _ he hw kt kf)
/-- a condition whose true side is reached by a goto -/
theorem ccGoT (hX : CX own cc nL ret d X) {a : wC} {off : Int} (ha : CmpC nL X w pc pM pF a) (hd : decode cc pM = .ok (.goto off, 3)) (ht : (pM : Int) + off = (pT : Int)) : CmpC nL X w pc pT pF a := fun ls stk t x t1 he hw kt kf => ha ls stk t x t1 he hw (fun h => g_goto hX hd ht (kt h)) kf
theorem ceIf (hX : CX own cc nL ret d X) {c : wC} {a b : wEI} {off : Int} (hc : CmpC nL X w pc pT pF c) (ha : CmpE nL X w pT p1 a) (hd : decode cc p1 = .ok (.goto off, 3)) (ht : (p1 : Int) + off = (pE : Int)) (hb : CmpE nL X w pF pE b) : CmpE nL X w pc pE (eIf c a b) := by
  intro ls stk t x t1 he hw k
  obtain ⟨⟨v, t2⟩, h1, he⟩ := ob_some he
  cases v with
  | true => exact hc ls stk t _ _ h1 hw (fun _ => ha ls stk _ _ _ he hw (g_goto hX hd ht k)) (fun h => by cases h)
  | false => exact hc ls stk t _ _ h1 hw (fun h => by cases h) (fun _ => hb ls stk _ _ _ he hw k)
theorem ceGo (hX : CX own cc nL ret d X) {a : wEI} {off : Int} (ha : CmpE nL X w pc p1 a) (hd : decode cc p1 = .ok (.goto off, 3)) (ht : (p1 : Int) + off = (pE : Int)) : CmpE nL X w pc pE a := fun ls stk t x t1 he hw k => ha ls stk t x t1 he hw (g_goto hX hd ht k)
/-- as ceIf, the goto taken into the first branch already -/
theorem ceIf2 {c : wC} {a b : wEI} (hc : CmpC nL X w pc pT pF c) (ha : CmpE nL X w pT pE a) (hb : CmpE nL X w pF pE b) : CmpE nL X w pc pE (eIf c a b) := by
  intro ls stk t x t1 he hw k
  obtain ⟨⟨v, t2⟩, h1, he⟩ := ob_some he
  cases v with
  | true => exact hc ls stk t _ _ h1 hw (fun _ => ha ls stk _ _ _ he hw k) (fun h => by cases h)
  | false => exact hc ls stk t _ _ h1 hw (fun h => by cases h) (fun _ => hb ls stk _ _ _ he hw k)
theorem ceBo (hX : CX own cc nL ret d X) {c : wC} {off : Int} (hc : CmpC nL X w pc pT pF c) (h1 : decode cc pT = .ok (.iconst 1, 1)) (hd : decode cc (pT + 1) = .ok (.goto off, 3)) (ht : ((pT + 1 : Nat) : Int) + off = (pE : Int)) (h0 : decode cc pF = .ok (.iconst 0, 1)) (hE : pF + 1 = pE) : CmpE nL X w pc pE (eBo c) := by
  subst hE
  intro ls stk t x t1 he hw k
  obtain ⟨⟨v, t2⟩, hv, he⟩ := ob_some he
  cases he
  cases v with
  | true => exact hc ls stk t _ _ hv hw (fun _ H locs lsA hR hL => lv_iconst hX.x hX.b h1 rfl (g_goto hX hd ht k H locs lsA hR hL)) (fun h => by cases h)
  | false => exact hc ls stk t _ _ hv hw (fun h => by cases h) (fun _ H locs lsA hR hL => lv_iconst hX.x hX.b h0 rfl (k H locs lsA hR hL))
/-! longs -/
theorem cLI0 (hX : CX own cc nL ret d X) {n : Fin 2} {v : Int64} (hd : decode cc pc = .ok (.lconst n, 1)) (hv : Int64.ofNat (n : Nat) = v) : CmpL nL X w pc (pc + 1) (eLI v) := by
  intro ls stk t x t1 he _ k H locs lsA hR hL
  cases he
  exact lv_lconst hX.x hX.b hd hv (k H locs lsA hR hL)
theorem cLI2 (hX : CX own cc nL ret d X) {i : Nat} {v : Int64} (hw : Jvm.Cond.constantLong own i v ∈ w_ws) (hd : decode cc pc = .ok (.ldc2_w i, 3)) : CmpL nL X w pc (pc + 3) (eLI v) := by
  intro ls stk t x t1 he _ k H locs lsA hR hL
  cases he
  exact lv_ldc2 hX.x hX.b hX.ow (hX.ts _ hw) hd (k H locs lsA hR hL)
theorem cI2L (hX : CX own cc nL ret d X) {a : wEI} (ha : CmpE nL X w pc p1 a) (hd : decode cc p1 = .ok (.i2l, 1)) : CmpL nL X w pc (p1 + 1) (eI2L a) := by
  intro ls stk t x t1 he hw kk
  obtain ⟨⟨v, t2⟩, h1, he⟩ := ob_some he
  cases he
  exact ha ls stk t v _ h1 hw fun H locs lsA hR hL => lv_i2l hX.x hX.b hd rfl (kk H locs lsA hR hL)
theorem cLAdd (hX : CX own cc nL ret d X) {a b : wEL} (ha : CmpL nL X w pc p1 a) (hb : CmpL nL X (w + 2) p1 p2 b) (hd : decode cc p2 = .ok (.ladd, 1)) : CmpL nL X w pc (p2 + 1) (eLB oLAdd a b) := by
  intro ls stk t x t1 he hw kk
  obtain ⟨⟨v, t2⟩, h1, he⟩ := ob_some he
  obtain ⟨⟨j, t3⟩, h2, he⟩ := ob_some he
  cases he
  exact ha ls stk t v t2 h1 hw (hb ls _ t2 j _ h2 (by rw [wcat_cons]; simp only [Value.category]; omega) fun H locs lsA hR hL => lv_ladd hX.x hX.b hd (kk H locs lsA hR hL))
theorem cLMul (hX : CX own cc nL ret d X) {a b : wEL} (ha : CmpL nL X w pc p1 a) (hb : CmpL nL X (w + 2) p1 p2 b) (hd : decode cc p2 = .ok (.lmul, 1)) : CmpL nL X w pc (p2 + 1) (eLB oLMul a b) := by
  intro ls stk t x t1 he hw kk
  obtain ⟨⟨v, t2⟩, h1, he⟩ := ob_some he
  obtain ⟨⟨j, t3⟩, h2, he⟩ := ob_some he
  cases he
  exact ha ls stk t v t2 h1 hw (hb ls _ t2 j _ h2 (by rw [wcat_cons]; simp only [Value.category]; omega) fun H locs lsA hR hL => lv_lmul hX.x hX.b hd (kk H locs lsA hR hL))
theorem ccL_t (hX : CX own cc nL ret d X) {c : ClassFile.Cond} {a b : wEL} {off : Int} (ha : CmpL nL X w pc p1 a) (hb : CmpL nL X (w + 2) p1 p2 b) (hd : decode cc p2 = .ok (.lcmp, 1)) (hd2 : decode cc (p2 + 1) = .ok (.ifCond c off, 3)) (ht : ((p2 + 1 : Nat) : Int) + off = (pT : Int)) : CmpC nL X w pc pT (p2 + 1 + 3) (cL c a b) := by
  intro ls stk t x t1 he hw kt kf
  obtain ⟨⟨v, t2⟩, h1, he⟩ := ob_some he
  obtain ⟨⟨j, t3⟩, h2, he⟩ := ob_some he
  cases he
  exact ha ls stk t v t2 h1 hw (hb ls _ t2 j _ h2 (by rw [wcat_cons]; simp only [Value.category]; omega) fun H locs lsA hR hL => W.lcmp hX.x hX.b hd (g_ifc hX hd2 ht kt kf H locs lsA hR hL))
theorem ccL_f (hX : CX own cc nL ret d X) {c c' : ClassFile.Cond} {a b : wEL} {off : Int} (ha : CmpL nL X w pc p1 a) (hb : CmpL nL X (w + 2) p1 p2 b) (hd : decode cc p2 = .ok (.lcmp, 1)) (hd2 : decode cc (p2 + 1) = .ok (.ifCond c' off, 3)) (hc : wneg c = c') (ht : ((p2 + 1 : Nat) : Int) + off = (pF : Int)) : CmpC nL X w pc (p2 + 1 + 3) pF (cL c a b) := by
  subst hc
  intro ls stk t x t1 he hw kt kf
  obtain ⟨⟨v, t2⟩, h1, he⟩ := ob_some he
  obtain ⟨⟨j, t3⟩, h2, he⟩ := ob_some he
  cases he
  exact ha ls stk t v t2 h1 hw (hb ls _ t2 j _ h2 (by rw [wcat_cons]; simp only [Value.category]; omega) fun H locs lsA hR hL => W.lcmp hX.x hX.b hd (g_ifc hX hd2 ht (fun h => kf (by rw [wcmp_neg] at h; simpa using h)) (fun h => kt (by rw [wcmp_neg] at h; simpa using h)) H locs lsA hR hL))
end COMB
