theorem wSwF_ne {x k : Int32} {b d : wSt} {r : List (Int32 × wSt)} (h : ¬ x = k) : wSwF x ((k, b) :: r) d = wSwF x r d := if_neg h
theorem wSwF_eq {x k : Int32} {b d : wSt} {r : List (Int32 × wSt)} (h : x = k) : wSwF x ((k, b) :: r) d = b := if_pos h
theorem mMet2 {y : MethodName} {own : String} (ho : y.cls = own) (hy : plainFor y = true) {cc : ByteArray} {nL : Nat} {ret : Option FieldType} {d pe pB pC : Nat} {b : (Nat → Nat × Nat) → wSt} (hd : 0 < d) (h : ∀ X : wX, CX own cc nL ret d X → CmpS nL X 0 pe pB pC (b (gsh (xG X)))) : MetOK y cc nL ret d (fun sh => mDen nL (b sh)) := by
  subst ho
  exact mMet hy hd h
section STR
variable {own : String} {cc : ByteArray} {nL : Nat} {ret : Option FieldType} {d : Nat} {X : wX} {w pc p1 p2 p3 p4 p5 pT pF pE pB pC pM : Nat}
theorem ceIfL (hX : CX own cc nL ret d X) {c : wC} {a b : wEL} {off : Int} (hc : CmpC nL X w pc pT pF c) (ha : CmpL nL X w pT p1 a) (hd : decode cc p1 = .ok (.goto off, 3)) (ht : (p1 : Int) + off = (pE : Int)) (hb : CmpL nL X w pF pE b) : CmpL nL X w pc pE (eIfL c a b) := by
  intro ls stk t x t1 he hw k
  obtain ⟨⟨v, t2⟩, h1, he⟩ := ob_some he
  cases v with
  | true => exact hc ls stk t _ _ h1 hw (fun _ => ha ls stk _ _ _ he hw (g_goto hX hd ht k)) (fun h => by cases h)
  | false => exact hc ls stk t _ _ h1 hw (fun h => by cases h) (fun _ => hb ls stk _ _ _ he hw k)
/-- what the start says of the Strings, still so -/
theorem w_now {t : wS} {H : Heap} {locs : List Loc} (hX : CX own cc nL ret d X) (hR : RepH X t H locs) : va_S (xA X) (xs X).heap H locs := by
  have h := hR.2.2
  rw [hX.H0] at h
  exact h
theorem cStr (hX : CX own cc nL ret d X) {k i : Nat} {tx : String} (hk : wStr[k]? = some (own, i, tx, k)) (hd : decode cc pc = .ok (.ldc i, 2)) : CmpR nL X w pc (pc + 2) (eStr k) := by
  intro ls stk t x t1 he _ kk H locs lsA hR hL
  cases he
  exact va_ldcS hX.x hX.b hX.ow (hX.facts.2.1 _ (List.mem_of_getElem? hk)) hd (kk H locs lsA hR hL)
/-! the JDK's String over the String constants -/
def eCs : wEI := fun _ t => some (1, t)
def eSVal (a : wER) : wER := fun ls t => (a ls t).bind fun p => if 1000 ≤ p.1 ∧ p.1 < 1023 then some (p.1 + 1000, p.2) else none
def eSCo (a : wER) : wEI := fun ls t => (a ls t).bind fun p => if 1000 ≤ p.1 ∧ p.1 < 1023 then some (0, p.2) else none
def eBLen (a : wER) : wEI := fun ls t => (a ls t).bind fun p => if 2000 ≤ p.1 ∧ p.1 < 2023 then some (Int32.ofNat (wLen.getD (p.1 - 2000) 0), p.2) else none
def eBAt (a : wER) (i : wEI) : wEI := fun ls t => (a ls t).bind fun p => (i ls p.2).bind fun q => if 2000 ≤ p.1 ∧ p.1 < 2023 ∧ wIn q.1 (wLen.getD (p.1 - 2000) 0) = true then some ((wByt.getD (p.1 - 2000) []).getD q.1.toNatClampNeg 0, q.2) else none
def oI2b (x : Int32) : Int32 := x.toInt8.toInt32
def sRetN (ty : FieldType) (e : wEI) : wSt := fun ls t => (e ls t).bind fun p => if narrow ty (.int p.1) = .int p.1 then some (3, some (.int p.1), ls, p.2) else none
def aS (e : wER) (r : wAr) : wAr := fun ls t => (e ls t).bind fun p => if 1000 ≤ p.1 ∧ p.1 < 1023 then (r ls p.2).bind fun q => some (.ref p.1 :: q.1, q.2) else none
def eDead : wEI := fun _ _ => none
def sDead : wSt := fun _ _ => none
theorem cDead : CmpE nL X w pc p1 eDead := fun ls stk t v t1 h => by cases h
theorem csDead : CmpS nL X pc p1 pB pC sDead := fun ls t o h => by cases h
theorem cCs (hX : CX own cc nL ret d X) {i : Nat} (hl : Jvm.Cond.fieldLink own i "java/lang/String" "COMPACT_STRINGS" "Z" ∈ w_ws) (hd : decode cc pc = .ok (.getstatic i, 3)) : CmpE nL X w pc (pc + 3) eCs := by
  intro ls stk t x t1 he _ kk H locs lsA hR hL
  cases he
  exact va_gets hX.x hX.b hX.facts.2.2.1 (w_now hX hR) hX.ow (hX.ts _ hl) (fun _ h => h) hd (kk H locs lsA hR hL)
theorem cSVal (hX : CX own cc nL ret d X) {i : Nat} {a : wER} (ha : CmpR nL X w pc p1 a) (hl : Jvm.Cond.fieldLink own i "java/lang/String" "value" "[B" ∈ w_ws) (hd : decode cc p1 = .ok (.getfield i, 3)) : CmpR nL X w pc (p1 + 3) (eSVal a) := by
  intro ls stk t x t1 he hw kk
  obtain ⟨⟨v, t2⟩, h1, he⟩ := ob_some he
  dsimp only at he
  by_cases hc : 1000 ≤ v ∧ v < 1023
  · rw [if_pos hc] at he
    cases he
    obtain ⟨k, rfl⟩ : ∃ k, v = 1000 + k := ⟨v - 1000, by omega⟩
    refine ha ls stk t _ _ h1 hw fun H locs lsA hR hL => ?_
    refine vk_getf hX.x hX.b (hX.facts.1.1 k (by omega)).2.2.1 (w_now hX hR) hX.ow (hX.ts _ hl) (fun _ h => h) hd ?_
    have e : gV (xG X) k = ga (xG X) (1000 + k + 1000) := congrArg (ga (xG X)) (by omega)
    rw [e]
    exact kk H locs lsA hR hL
  · rw [if_neg hc] at he
    cases he
theorem cSCo (hX : CX own cc nL ret d X) {i : Nat} {a : wER} (ha : CmpR nL X w pc p1 a) (hl : Jvm.Cond.fieldLink own i "java/lang/String" "coder" "B" ∈ w_ws) (hd : decode cc p1 = .ok (.getfield i, 3)) : CmpE nL X w pc (p1 + 3) (eSCo a) := by
  intro ls stk t x t1 he hw kk
  obtain ⟨⟨v, t2⟩, h1, he⟩ := ob_some he
  dsimp only at he
  by_cases hc : 1000 ≤ v ∧ v < 1023
  · rw [if_pos hc] at he
    cases he
    obtain ⟨k, rfl⟩ : ∃ k, v = 1000 + k := ⟨v - 1000, by omega⟩
    refine ha ls stk t _ _ h1 hw fun H locs lsA hR hL => ?_
    exact vk_getf hX.x hX.b (hX.facts.1.1 k (by omega)).2.1 (w_now hX hR) hX.ow (hX.ts _ hl) (fun _ h => h) hd (kk H locs lsA hR hL)
  · rw [if_neg hc] at he
    cases he
set_option maxRecDepth 20000 in
theorem cBLen (hX : CX own cc nL ret d X) {a : wER} (ha : CmpR nL X w pc p1 a) (hd : decode cc p1 = .ok (.arraylength, 1)) : CmpE nL X w pc (p1 + 1) (eBLen a) := by
  intro ls stk t x t1 he hw kk
  obtain ⟨⟨v, t2⟩, h1, he⟩ := ob_some he
  dsimp only at he
  by_cases hc : 2000 ≤ v ∧ v < 2023
  · rw [if_pos hc] at he
    cases he
    obtain ⟨k, rfl⟩ : ∃ k, v = 2000 + k := ⟨v - 2000, by omega⟩
    rw [Nat.add_sub_cancel_left] at kk
    refine ha ls stk t _ _ h1 hw fun H locs lsA hR hL => ?_
    exact va_tlen hX.x hX.b (hX.facts.1.1 k (by omega)).2.2.2 (w_now hX hR) rfl hd (kk H locs lsA hR hL)
  · rw [if_neg hc] at he
    cases he
set_option maxRecDepth 20000 in
theorem cBAt (hX : CX own cc nL ret d X) {a : wER} {e : wEI} (ha : CmpR nL X w pc p1 a) (hi : CmpE nL X (w + 1) p1 p2 e) (hd : decode cc p2 = .ok (.baload, 1)) : CmpE nL X w pc (p2 + 1) (eBAt a e) := by
  intro ls stk t x t1 he hw kk
  obtain ⟨⟨v, t2⟩, h1, he⟩ := ob_some he
  obtain ⟨⟨j, t3⟩, h2, he⟩ := ob_some he
  dsimp only at he
  by_cases hc : 2000 ≤ v ∧ v < 2023 ∧ wIn j (wLen.getD (v - 2000) 0) = true
  · rw [if_pos hc] at he
    cases he
    obtain ⟨k, rfl⟩ : ∃ k, v = 2000 + k := ⟨v - 2000, by omega⟩
    rw [Nat.add_sub_cancel_left] at hc kk
    refine ha ls stk t _ _ h1 hw (hi ls _ t2 j _ h2 (by rw [wcat_cons]; simp only [Value.category]; omega) fun H locs lsA hR hL => ?_)
    exact va_tb hX.x hX.b (hX.facts.1.1 k (by omega)).2.2.2 (w_now hX hR) (wIn_in hc.2.2) rfl hd (kk H locs lsA hR hL)
  · rw [if_neg hc] at he
    cases he
theorem c_i2b (hX : CX own cc nL ret d X) {a : wEI} (ha : CmpE nL X w pc p1 a) (hd : decode cc p1 = .ok (.i2b, 1)) : CmpE nL X w pc (p1 + 1) (eU oI2b a) := by
  intro ls stk t x t1 he hw kk
  obtain ⟨⟨v, t2⟩, h1, he⟩ := ob_some he
  cases he
  exact ha ls stk t v _ h1 hw fun H locs lsA hR hL => lv_i2b hX.x hX.b hd rfl (kk H locs lsA hR hL)
theorem csRetN {ty : FieldType} (hX : CX own cc nL (some ty) d X) {e : wEI} (he : CmpE nL X 0 pc p2 e) (hd : decode cc p2 = .ok (.ireturn, 1)) : CmpS nL X pc p1 pB pC (sRetN ty e) := fun ls t o h hp => by
  obtain ⟨⟨v, t1⟩, h1, h⟩ := ob_some h
  dsimp only at h
  by_cases hv : narrow ty (.int v) = .int v
  · rw [if_pos hv] at h
    cases h
    refine he ls [] t v t1 h1 (Nat.le_refl 0) fun H locs lsA hR hL => ?_
    have hf : xfin X = (some (.int v), t1) := hp.2.2.2 rfl
    exact (hX.rt H locs lsA p2 (by rw [hf]; exact hR)).2.1 v ty (by rw [hf]) rfl hv hd
  · rw [if_neg hv] at h
    cases h
theorem aS_some {e : wER} {r : wAr} {ls : wL} {t t1 : wS} {vs : List Value} (h : aS e r ls t = some (vs, t1)) : ∃ (k : Nat) (As : List Value), vs = .ref (1000 + k) :: As ∧ k < 23 := by
  obtain ⟨⟨b, t2⟩, -, h⟩ := ob_some h
  dsimp only at h
  by_cases hc : 1000 ≤ b ∧ b < 1023
  · rw [if_pos hc] at h
    obtain ⟨⟨As, t3⟩, -, h⟩ := ob_some h
    cases h
    exact ⟨b - 1000, As, by rw [show 1000 + (b - 1000) = b by omega], by omega⟩
  · rw [if_neg hc] at h
    cases h
theorem cAS {n : Nat} {e : wER} {r : wAr} (he : CmpR nL X w pc p1 e) (hr : CmpA2 nL X (w + 1) p1 p2 n r) : CmpA2 nL X w pc p2 (n + 1) (aS e r) := fun ls stk t vs t1 h => by
  obtain ⟨⟨v, t2⟩, h1, h⟩ := ob_some h
  dsimp only at h
  by_cases hc : 1000 ≤ v ∧ v < 1023
  · rw [if_pos hc] at h
    obtain ⟨⟨rs, t3⟩, h2, h⟩ := ob_some h
    cases h
    have h3 := hr ls (.ref v :: stk) t2 rs _ h2
    refine ⟨by simp [h3.1], fun hw k => he ls stk t v t2 h1 hw (h3.2 (by rw [wcat_cons]; simp only [Value.category]; omega) ?_)⟩
    simpa using k
  · rw [if_neg hc] at h
    cases h
theorem cCallVS (hX : CX own cc nL ret d X) {y : MethodName} {cc' : ByteArray} {nL' n i d' : Nat} {ret' : Option FieldType} {den : (Nat → Nat × Nat) → wM} {e : wER} {as : wAr} (hM : MetOK y cc' nL' ret' d' den) (hl : Jvm.Cond.methodLink own i y ∈ w_ws) (hi : Jvm.Cond.instanceMethod y ∈ w_ws) (hv : Jvm.Cond.selects "java/lang/String" y y ∈ w_ws) (hcd : Jvm.Cond.code y cc' nL' ret' ∈ w_ws) (hn : Jvm.Cond.initialized y.cls ∈ w_ws)
    (hy : y.cls ≠ "java/lang/invoke/MethodHandle" ∧ y.cls ≠ "java/lang/invoke/VarHandle" ∧ (parseMethodDescriptor y.desc).map (fun d => d.parameters.length) = some n) (hd' : d' + 1 ≤ d) (hnL : nL' ≤ 81) (hw8 : w ≤ 8) (ha : CmpA2 nL X w pc p1 (n + 1) (aS e as)) (hd : decode cc p1 = .ok (.invokevirtual i, 3)) : CmpE nL X w pc (p1 + 3) (eCall (den (gsh (xG X))) (aS e as)) := by
  intro ls stk t v t1 he hw kk
  obtain ⟨vs, t2, h1, h2⟩ := eCall_some he
  obtain ⟨k, As, rfl, hk⟩ := aS_some h1
  obtain ⟨h3, h4⟩ := ha ls stk t _ t2 h1
  refine h4 hw fun H locs lsA hR hL => ?_
  have hstk : ((Value.ref (1000 + k) :: As).reverse ++ stk).map (cv (ga (xG X))) = (As.map (cv (ga (xG X)))).reverse ++ .ref (ga (xG X) (1000 + k)) :: stk.map (cv (ga (xG X))) := by simp [List.map_reverse, cv]
  rw [hstk]
  refine g_run hX hR (r := some (.int v)) (t1 := t1) (rest := stk.map (cv (ga (xG X)))) (va_runV (C := "java/lang/String") (y := y) (bytes := cc') (maxL := nL') (ret := ret') (As := As.map (cv (ga (xG X)))) (rest := stk.map (cv (ga (xG X)))) (Pc := w_Pc (xG X) t2 (.ref (1000 + k) :: As) H.size) (Qc := w_Qc (xG X) t2 t1 (some (.int v)) H.size) ⟨hX.x, hX.b, hX.ml, hX.ow, hX.ts⟩ (hM (xl X) (xG X) t2 t1 _ _ H.size h2) ⟨w_callB hX hl hcd hn hy hd' hnL, hX.ts _ hi, hX.ts _ hv⟩ ⟨w_blind _ _ _ _, vk_recv hX.facts.1 hk (w_now hX hR), fun U hU hW => w_pre hX hR U hU hW⟩ rfl (by rw [List.length_map]; simpa using h3) hL.2.1 rfl (lv_room (by rw [wcat_cv]; omega)) hd ⟨hX.space.1, hX.space.2⟩) (fun H1 locs1 hR1 => ?_)
  exact kk H1 locs1 lsA hR1 hL
end STR
/-! Preconditions.checkIndex: its third argument is whatever the static holds -/
def w_Pr (G : wG) (t : wS) (av : List Value) (sz : Nat) : Array Value → State → Prop := va_Pc av (fun U => U.heap.size = sz ∧ va_P (gD G) vwCl (w_world G t) U.heap ∧ va_K (gD G) vwCl (wtys G) U ∧ va_D (fun _ => True) (w_world G t) ∧ wFacts G (va_A (w_world G t) sz) U U.heap)
theorem w_blindR (G : wG) (t : wS) (vs : List Value) (sz : Nat) : FrameBlind (w_Pr G t vs sz) := fun a U g mk h => by
  obtain ⟨h1, h2, h3, h4, h5, h6⟩ := h
  exact ⟨h1, h2, h3, va_K.moved (u := U) (U := U.calling g mk a) (Vm.Alike.refl U.vm) h4, h5, wFacts.same (u := U) (U := U.calling g mk a) rfl h6⟩
theorem met_ck3 (l : Launch) (G : wG) (t : wS) (sz : Nat) (i n : Int32) (v : Value) (hv : v.category = 1) (h0 : ¬ i < 0) (h1 : i < n) : Met l yJ3_checkIndex_8e157 (Cond.code yJ3_checkIndex_8e157 cJ3_checkIndex_8e157 3 (some .int) :: w_ws) (wroom 1) (w_Pr G t [.int i, .int n, v] sz) (w_Qc G t t (some (.int i)) sz) 0 0 (va_A (w_world G t) sz) := by
  refine va_MetF (cc := cJ3_checkIndex_8e157) (maxL := 3) (ret := some .int) (by decide +kernel) rfl ?_
  intro p e s m args below meth c s₁ B hml hq
  obtain ⟨rfl, hsz, hP, hK, hD, hF⟩ := hq
  have hlocks := B.notSynchronized
  have hx := B.exec
  have hb := B.bytes
  have hr := B.returns
  have hl := lv_entry ([.int i, .int n, v]) (n := 3) (by
    rw [lg_sl_len _ (fun x hx => by
      simp only [List.mem_cons, List.not_mem_nil, or_false] at hx
      rcases hx with rfl | rfl | rfl
      · rfl
      · rfl
      · exact hv)]
    exact Nat.le_refl 3)
  rw [lg_entry_eq]
  generalize (lg_sl ([.int i, .int n, v]) ++ List.replicate (3 - (lg_sl ([.int i, .int n, v])).length) Slot.unset).toArray = ls at hl ⊢
  have hl : lv_has ls 3 [(0, .int i), (1, .int n), (2, v)] := hl
  refine lv_iload_n hx hb dJ3_checkIndex_8e157_0 rfl (lv_at hl 0 rfl) ?_
  refine lv_if_lt (tgt := 9) hx hb dJ3_checkIndex_8e157_1 rfl (fun h => absurd h h0) (fun _ => ?_)
  refine lv_iload_n hx hb dJ3_checkIndex_8e157_4 rfl (lv_at hl 0 rfl) ?_
  refine lv_iload_n hx hb dJ3_checkIndex_8e157_5 rfl (lv_at hl 1 rfl) ?_
  refine lv_icmp_lt (tgt := 16) hx hb dJ3_checkIndex_8e157_6 rfl (fun _ => ?_) (fun h => absurd h1 h)
  refine lv_iload_n hx hb dJ3_checkIndex_8e157_16 rfl (lv_at hl 0 rfl) ?_
  exact W.iret hx hb hr (fun u hu _ => ⟨rfl, by rw [hu]; exact hP, (va_S.rf (A := va_A (w_world G t) sz)).F hu⟩) (fun q h => by cases h) dJ3_checkIndex_8e157_17 hlocks
def sCk : wSt := fun ls t => match ls with
  | [.int i, .int n] => if ¬ i < 0 ∧ i < n then some (3, none, ls, t) else none
  | _ => none
theorem csCk {X : wX} {d pB pC p1 : Nat} (hd6 : 2 ≤ d) (hX : CX RJ0 cJ0_checkIndex_df160 2 none d X) : CmpS 2 X 0 p1 pB pC sCk := by
  intro ls t o he hp
  unfold sCk at he
  split at he
  · rename_i i n
    by_cases hc : ¬ i < 0 ∧ i < n
    · rw [if_pos hc] at he
      cases he
      intro H locs lsA hR hL
      refine lv_iload_n hX.x hX.b dJ0_checkIndex_df160_0 rfl (hL.int (k := 0) rfl) ?_
      refine lv_iload_n hX.x hX.b dJ0_checkIndex_df160_1 rfl (hL.int (k := 1) rfl) ?_
      have key : ∀ v : Value, v.category = 1 → va_Z "jdk/internal/util/Preconditions" "SIOOBE_FORMATTER" "Ljava/util/function/BiFunction;" v (xA X) (xs X) (xs X).heap → WW X H locs (F0 (xm X) 2 lsA [.int n, .int i]) := by
        intro v hv hZ
        refine va_gets hX.x hX.b hZ (w_now hX hR) hX.ow (hX.ts _ wd_838) (fun _ h => h) dJ0_checkIndex_df160_2 ?_
        refine g_run hX hR (r := some (.int i)) (t1 := t) (rest := []) (va_runS (y := yJ3_checkIndex_8e157) (bytes := cJ3_checkIndex_8e157) (maxL := 3) (ret := some .int) (As := [.int i, .int n, v]) (rest := []) (Pc := w_Pr (xG X) t [.int i, .int n, v] H.size) (Qc := w_Qc (xG X) t t (some (.int i)) H.size) ⟨hX.x, hX.b, hX.ml, hX.ow, hX.ts⟩ (met_ck3 (xl X) (xG X) t H.size i n v hv hc.1 hc.2) ⟨w_callB hX wd_885 wd_887 wd_133 (n := 3) ⟨by decide +kernel, by decide +kernel, by decide +kernel⟩ (by omega) (by decide), hX.ts _ wd_886⟩ ⟨w_blindR _ _ _ _, fun U hU hW => ⟨rfl, (w_pre (vs := []) hX hR U hU hW).2⟩⟩ rfl rfl hL.2.1 rfl (lv_room (by decide)) dJ0_checkIndex_df160_5 ⟨hX.space.1, hX.space.2⟩) (fun H1 locs1 hR1 => ?_)
        refine lv_pop hX.x hX.b dJ0_checkIndex_df160_8 rfl ?_
        have hf : xfin X = (none, t) := hp.2.2.2 rfl
        exact (hX.rt H1 locs1 lsA 9 (by rw [hf]; exact hR1)).1 (by rw [hf]) rfl dJ0_checkIndex_df160_9
      rcases hX.facts.2.2.2 with h | ⟨a, h⟩
      · exact key .null rfl h
      · exact key (.ref a) rfl h
    · rw [if_neg hc] at he
      cases he
  · cases he
def nS_ck : (Nat → Nat × Nat) → wM := fun _ => mDen 2 sCk
theorem mS_ck : MetOK yJ0_checkIndex_df160 cJ0_checkIndex_df160 2 none 2 nS_ck := mMet2 (own := RJ0) rfl (by decide +kernel) (pe := 0) (pB := 0) (pC := 0) (b := fun _ => sCk) (by decide) (fun X hX => csCk (by decide) hX)
def nS_coder : (Nat → Nat × Nat) → wM := fun _ => mDen 1 (sRetN .byte (eIf (cZ .ne eCs) (eSCo (eLocR 0)) (eI 1)))
theorem mS_coder : MetOK yJ0_coder_7d493 cJ0_coder_7d493 1 (some .byte) 1 nS_coder := mMet2 (own := RJ0) rfl (by decide +kernel) (pe := 0) (pB := 0) (pC := 0) (b := fun _ => _) (by decide) (fun X hX => csRetN hX (ceIf hX (pE := 14) (ccZ_f hX (cCs hX wd_799 dJ0_coder_7d493_0) dJ0_coder_7d493_3 rfl rfl) (cSCo hX (cLocR_n hX dJ0_coder_7d493_6 rfl) wd_1994 dJ0_coder_7d493_7) dJ0_coder_7d493_10 rfl (cConst hX dJ0_coder_7d493_13 (by decide))) dJ0_coder_7d493_14)
def nS_lat : (Nat → Nat × Nat) → wM := fun _ => mDen 1 (sRetZ (eBo (cAnd (cZ .ne eCs) (cZ .eq (eSCo (eLocR 0))))))
theorem mS_lat : MetOK yJ0_isLatin1_aae02 cJ0_isLatin1_aae02 1 (some .boolean) 1 nS_lat := mMet2 (own := RJ0) rfl (by decide +kernel) (pe := 0) (pB := 0) (pC := 0) (b := fun _ => _) (by decide) (fun X hX => csRetZ hX (ceBo hX (pE := 18) (ccAnd (pM := 6) (ccZ_f hX (cCs hX wd_799 dJ0_isLatin1_aae02_0) dJ0_isLatin1_aae02_3 rfl rfl) (ccZ_f hX (cSCo hX (cLocR_n hX dJ0_isLatin1_aae02_6 rfl) wd_1994 dJ0_isLatin1_aae02_7) dJ0_isLatin1_aae02_10 rfl rfl)) dJ0_isLatin1_aae02_13 dJ0_isLatin1_aae02_14 rfl dJ0_isLatin1_aae02_17 rfl) dJ0_isLatin1_aae02_18)
def nS_len : (Nat → Nat × Nat) → wM := fun sh => mDen 1 (sRet (eB oShr (eBLen (eSVal (eLocR 0))) (eCall (nS_coder sh) (aS (eLocR 0) aN))))
theorem mS_len : MetOK yJ0_length_8abf5 cJ0_length_8abf5 1 (some .int) 2 nS_len := mMet2 (own := RJ0) rfl (by decide +kernel) (pe := 0) (pB := 0) (pC := 0) (b := fun sh => sRet (eB oShr (eBLen (eSVal (eLocR 0))) (eCall (nS_coder sh) (aS (eLocR 0) aN)))) (by decide) (fun X hX => csRet hX (c_ishr hX (cBLen hX (cSVal hX (cLocR_n hX dJ0_length_8abf5_0 rfl) wd_1995 dJ0_length_8abf5_1) dJ0_length_8abf5_4) (cCallVS hX mS_coder wd_805 wd_806 wd_807 wd_808 wd_130 ⟨by decide +kernel, by decide +kernel, by decide +kernel⟩ (by decide) (by decide) (by decide) (cAS (cLocR_n hX dJ0_length_8abf5_5 rfl) cAN) dJ0_length_8abf5_6) dJ0_length_8abf5_9) dJ0_length_8abf5_10)
def nS_can : (Nat → Nat × Nat) → wM := fun _ => mDen 1 (sRetZ (eBo (cAnd (cZ .ge (eLoc 0)) (cI .le (eLoc 0) (eI 255)))))
theorem mS_can : MetOK yJ1_canEncode_9a6ad cJ1_canEncode_9a6ad 1 (some .boolean) 1 nS_can := mMet2 (own := RJ1) rfl (by decide +kernel) (pe := 0) (pB := 0) (pC := 0) (b := fun _ => _) (by decide) (fun X hX => csRetZ hX (ceBo hX (pE := 16) (ccAnd (pM := 4) (ccZ_f hX (cLoc_n hX dJ1_canEncode_9a6ad_0 rfl) dJ1_canEncode_9a6ad_1 rfl rfl) (ccI_f hX (cLoc_n hX dJ1_canEncode_9a6ad_4 rfl) (cSi hX dJ1_canEncode_9a6ad_5 (by decide)) dJ1_canEncode_9a6ad_8 rfl rfl)) dJ1_canEncode_9a6ad_11 dJ1_canEncode_9a6ad_12 rfl dJ1_canEncode_9a6ad_15 rfl) dJ1_canEncode_9a6ad_16)
def bS_at (sh : Nat → Nat × Nat) : wSt := sSeq (sCall (nS_ck sh) (aI (eLoc 1) (aI (eBLen (eLocR 0)) aN))) (sRetN .char (eU oI2c (eB oAnd (eBAt (eLocR 0) (eLoc 1)) (eI 255))))
def nS_lat_at : (Nat → Nat × Nat) → wM := fun sh => mDen 2 (bS_at sh)
theorem mS_lat_at : MetOK yJ1_charAt_3b067 cJ1_charAt_3b067 2 (some .char) 3 nS_lat_at := mMet2 (own := RJ1) rfl (by decide +kernel) (pe := 0) (pB := 0) (pC := 0) (b := bS_at) (by decide) (fun X hX => csSeq (pM := 6) (csCallS hX mS_ck wd_882 wd_883 wd_884 wd_130 (n := 2) ⟨by decide +kernel, by decide +kernel, by decide +kernel⟩ (by decide) (by decide) (cAI (cLoc_n hX dJ1_charAt_3b067_0 rfl) (cAI (cBLen hX (cLocR_n hX dJ1_charAt_3b067_1 rfl) dJ1_charAt_3b067_2) cAN)) dJ1_charAt_3b067_3) (csRetN hX (c_i2c hX (c_iand hX (cBAt hX (cLocR_n hX dJ1_charAt_3b067_6 rfl) (cLoc_n hX dJ1_charAt_3b067_7 rfl) dJ1_charAt_3b067_8) (cSi hX dJ1_charAt_3b067_9 (by decide)) dJ1_charAt_3b067_12) dJ1_charAt_3b067_13) dJ1_charAt_3b067_14))
def bS_chr (sh : Nat → Nat × Nat) : wSt := sIf (cZ .ne (eCall (nS_lat sh) (aS (eLocR 0) aN))) (sRetN .char (eCall (nS_lat_at sh) (aR (eSVal (eLocR 0)) (aI (eLoc 1) aN)))) sDead
def nS_chr : (Nat → Nat × Nat) → wM := fun sh => mDen 2 (bS_chr sh)
theorem mS_chr : MetOK yJ0_charAt_5068e cJ0_charAt_5068e 2 (some .char) 4 nS_chr := mMet2 (own := RJ0) rfl (by decide +kernel) (pe := 0) (pB := 0) (pC := 0) (b := bS_chr) (by decide) (fun X hX => csIf (pT := 7) (pF := 16) (ccZ_f hX (cCallVS hX mS_lat wd_795 wd_796 wd_797 wd_798 wd_130 ⟨by decide +kernel, by decide +kernel, by decide +kernel⟩ (by decide) (by decide) (by decide) (cAS (cLocR_n hX dJ0_charAt_5068e_0 rfl) cAN) dJ0_charAt_5068e_1) dJ0_charAt_5068e_4 rfl rfl) (csRetN hX (cCallS hX mS_lat_at wd_879 wd_880 wd_881 wd_131 (n := 2) ⟨by decide +kernel, by decide +kernel, by decide +kernel⟩ (by decide) (by decide) (by decide) (cAR (cSVal hX (cLocR_n hX dJ0_charAt_5068e_7 rfl) wd_1995 dJ0_charAt_5068e_8) (cAI (cLoc_n hX dJ0_charAt_5068e_11 rfl) cAN)) dJ0_charAt_5068e_12) dJ0_charAt_5068e_15) csDead)
def bS_ixc (K : Nat) (_ : Nat → Nat × Nat) : wSt := sSeq (sLoc 4 (eU oI2b (eLoc 1))) (sSeq (sLoc 5 (eLoc 2)) (sSeq (sWh (cI .lt (eLoc 5) (eLoc 3)) (sIf (cI .eq (eBAt (eLocR 0) (eLoc 5)) (eLoc 4)) (sRet (eLoc 5)) sSkip) (sInc 5 1) K) (sRet (eI (-1)))))
def nS_ixc (K : Nat) : (Nat → Nat × Nat) → wM := fun sh => mDen 6 (bS_ixc K sh)
theorem mS_ixc (K : Nat) : MetOK yJ1_indexOfChar_4cfef cJ1_indexOfChar_4cfef 6 (some .int) 1 (nS_ixc K) := mMet2 (own := RJ1) rfl (by decide +kernel) (pe := 0) (pB := 0) (pC := 0) (b := bS_ixc K) (by decide) (fun X hX => csSeq (pM := 4) (csLoc hX (c_i2b hX (cLoc_n hX dJ1_indexOfChar_4cfef_0 rfl) dJ1_indexOfChar_4cfef_1) dJ1_indexOfChar_4cfef_2 (by decide)) (csSeq (pM := 7) (csLoc hX (cLoc_n hX dJ1_indexOfChar_4cfef_4 rfl) dJ1_indexOfChar_4cfef_5 (by decide)) (csSeq (pM := 31) (csWh (pT := 13) (pU := 25) (qB := 0) (qC := 0) (ccI_f hX (cLoc hX dJ1_indexOfChar_4cfef_7) (cLoc_n hX dJ1_indexOfChar_4cfef_9 rfl) dJ1_indexOfChar_4cfef_10 rfl rfl) (csIf (pT := 22) (pF := 25) (ccI_f hX (cBAt hX (cLocR_n hX dJ1_indexOfChar_4cfef_13 rfl) (cLoc hX dJ1_indexOfChar_4cfef_14) dJ1_indexOfChar_4cfef_16) (cLoc hX dJ1_indexOfChar_4cfef_17) dJ1_indexOfChar_4cfef_19 rfl rfl) (csRet hX (cLoc hX dJ1_indexOfChar_4cfef_22) dJ1_indexOfChar_4cfef_24) csSkip) (csGo hX (pM := 28) (csInc hX dJ1_indexOfChar_4cfef_25 (by decide)) dJ1_indexOfChar_4cfef_28 rfl) K) (csRet hX (cConst hX dJ1_indexOfChar_4cfef_31 (by decide)) dJ1_indexOfChar_4cfef_32))))
def bS_lix (K : Nat) (sh : Nat → Nat × Nat) : wSt := sSeq (sIf (cZ .eq (eCall (nS_can sh) (aI (eLoc 1) aN))) (sRet (eI (-1))) sSkip) (sSeq (sLoc 2 (eB oMax (eLoc 2) (eI 0))) (sSeq (sLoc 3 (eB oMin (eLoc 3) (eBLen (eLocR 0)))) (sSeq (sIf (cI .ge (eLoc 2) (eLoc 3)) (sRet (eI (-1))) sSkip) (sRet (eCall (nS_ixc K sh) (aR (eLocR 0) (aI (eLoc 1) (aI (eLoc 2) (aI (eLoc 3) aN)))))))))
def nS_lix (K : Nat) : (Nat → Nat × Nat) → wM := fun sh => mDen 4 (bS_lix K sh)
theorem mS_lix (K : Nat) : MetOK yJ1_indexOf_4cfef cJ1_indexOf_4cfef 4 (some .int) 2 (nS_lix K) := mMet2 (own := RJ1) rfl (by decide +kernel) (pe := 0) (pB := 0) (pC := 0) (b := bS_lix K) (by decide) (fun X hX => csSeq (pM := 9) (csIf (pT := 7) (pF := 9) (ccZ_f hX (cCallS hX mS_can wd_812 wd_813 wd_814 wd_131 (n := 1) ⟨by decide +kernel, by decide +kernel, by decide +kernel⟩ (by decide) (by decide) (by decide) (cAI (cLoc_n hX dJ1_indexOf_4cfef_0 rfl) cAN) dJ1_indexOf_4cfef_1) dJ1_indexOf_4cfef_4 rfl rfl) (csRet hX (cConst hX dJ1_indexOf_4cfef_7 (by decide)) dJ1_indexOf_4cfef_8) csSkip) (csSeq (pM := 15) (csLoc_n hX (c_max hX (cLoc_n hX dJ1_indexOf_4cfef_9 rfl) (cConst hX dJ1_indexOf_4cfef_10 (by decide)) (by decide) wd_815 wd_642 wd_129 wd_643 dJ1_indexOf_4cfef_11) dJ1_indexOf_4cfef_14 rfl (by decide)) (csSeq (pM := 22) (csLoc_n hX (c_min hX (cLoc_n hX dJ1_indexOf_4cfef_15 rfl) (cBLen hX (cLocR_n hX dJ1_indexOf_4cfef_16 rfl) dJ1_indexOf_4cfef_17) (by decide) wd_816 wd_681 wd_129 wd_682 dJ1_indexOf_4cfef_18) dJ1_indexOf_4cfef_21 rfl (by decide)) (csSeq (pM := 29) (csIf (pT := 27) (pF := 29) (ccI_f hX (cLoc_n hX dJ1_indexOf_4cfef_22 rfl) (cLoc_n hX dJ1_indexOf_4cfef_23 rfl) dJ1_indexOf_4cfef_24 rfl rfl) (csRet hX (cConst hX dJ1_indexOf_4cfef_27 (by decide)) dJ1_indexOf_4cfef_28) csSkip) (csRet hX (cCallS hX (mS_ixc K) wd_817 wd_818 wd_819 wd_131 (n := 4) ⟨by decide +kernel, by decide +kernel, by decide +kernel⟩ (by decide) (by decide) (by decide) (cAR (cLocR_n hX dJ1_indexOf_4cfef_29 rfl) (cAI (cLoc_n hX dJ1_indexOf_4cfef_30 rfl) (cAI (cLoc_n hX dJ1_indexOf_4cfef_31 rfl) (cAI (cLoc_n hX dJ1_indexOf_4cfef_32 rfl) cAN)))) dJ1_indexOf_4cfef_33) dJ1_indexOf_4cfef_36)))))
def bS_ix2 (K : Nat) (sh : Nat → Nat × Nat) : wSt := sRet (eIf (cZ .ne (eCall (nS_lat sh) (aS (eLocR 0) aN))) (eCall (nS_lix K sh) (aR (eSVal (eLocR 0)) (aI (eLoc 1) (aI (eLoc 2) (aI (eCall (nS_len sh) (aS (eLocR 0) aN)) aN))))) eDead)
def nS_ix2 (K : Nat) : (Nat → Nat × Nat) → wM := fun sh => mDen 3 (bS_ix2 K sh)
theorem mS_ix2 (K : Nat) : MetOK yJ0_indexOf_7cf53 cJ0_indexOf_7cf53 3 (some .int) 3 (nS_ix2 K) := mMet2 (own := RJ0) rfl (by decide +kernel) (pe := 0) (pB := 0) (pC := 0) (b := bS_ix2 K) (by decide) (fun X hX => csRet (p2 := 36) hX (ceIf hX (pE := 36) (ccZ_f hX (cCallVS hX mS_lat wd_795 wd_796 wd_797 wd_798 wd_130 ⟨by decide +kernel, by decide +kernel, by decide +kernel⟩ (by decide) (by decide) (by decide) (cAS (cLocR_n hX dJ0_indexOf_7cf53_0 rfl) cAN) dJ0_indexOf_7cf53_1) dJ0_indexOf_7cf53_4 rfl rfl) (cCallS hX (mS_lix K) wd_809 wd_810 wd_811 wd_131 (n := 4) ⟨by decide +kernel, by decide +kernel, by decide +kernel⟩ (by decide) (by decide) (by decide) (cAR (cSVal hX (cLocR_n hX dJ0_indexOf_7cf53_7 rfl) wd_1995 dJ0_indexOf_7cf53_8) (cAI (cLoc_n hX dJ0_indexOf_7cf53_11 rfl) (cAI (cLoc_n hX dJ0_indexOf_7cf53_12 rfl) (cAI (cCallVS hX mS_len wd_801 wd_802 wd_803 wd_804 wd_130 ⟨by decide +kernel, by decide +kernel, by decide +kernel⟩ (by decide) (by decide) (by decide) (cAS (cLocR_n hX dJ0_indexOf_7cf53_13 rfl) cAN) dJ0_indexOf_7cf53_14) cAN)))) dJ0_indexOf_7cf53_17) dJ0_indexOf_7cf53_20 rfl cDead) dJ0_indexOf_7cf53_36)
def bS_ix1 (K : Nat) (sh : Nat → Nat × Nat) : wSt := sRet (eCall (nS_ix2 K sh) (aS (eLocR 0) (aI (eLoc 1) (aI (eI 0) aN))))
def nS_ix1 (K : Nat) : (Nat → Nat × Nat) → wM := fun sh => mDen 2 (bS_ix1 K sh)
theorem mS_ix1 (K : Nat) : MetOK yJ0_indexOf_0f7a4 cJ0_indexOf_0f7a4 2 (some .int) 4 (nS_ix1 K) := mMet2 (own := RJ0) rfl (by decide +kernel) (pe := 0) (pB := 0) (pC := 0) (b := bS_ix1 K) (by decide) (fun X hX => csRet hX (cCallVS hX (mS_ix2 K) wd_791 wd_792 wd_793 wd_794 wd_130 ⟨by decide +kernel, by decide +kernel, by decide +kernel⟩ (by decide) (by decide) (by decide) (cAS (cLocR_n hX dJ0_indexOf_0f7a4_0 rfl) (cAI (cLoc_n hX dJ0_indexOf_0f7a4_1 rfl) (cAI (cConst hX dJ0_indexOf_0f7a4_2 (by decide)) cAN))) dJ0_indexOf_0f7a4_3) dJ0_indexOf_0f7a4_6)
