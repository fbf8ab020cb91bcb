def shS (X0 : wX) (S : List (Nat × Nat)) : Nat → Nat × Nat := fun c => (gl (xG X0) ++ S).getD c (9, 0)
theorem shS_old {X0 : wX} {S : List (Nat × Nat)} {c : Nat} {e : Nat × Nat} (h : gsh (xG X0) c = e) (he : e.1 ≠ 9) : shS X0 S c = e := by
  have hc : c < (gl (xG X0)).length := gsh_lt (a := e.1) (b := e.2) h he
  rw [← h]
  exact gsh_old (G := xG X0) (al := ga (xG X0)) (S := S) hc
theorem shS_new {X0 : wX} {S : List (Nat × Nat)} {n0 j : Nat} (h : (gl (xG X0)).length = n0) : shS X0 S (n0 + j) = S.getD j (9, 0) := by
  subst h
  exact gsh_new (G := xG X0) (al := ga (xG X0)) (S := S)
def w_PcN (G : wG) (t : wS) (vs : List Value) (sz : Nat) : Array Value → State → Prop := fun v U => w_Pc G t vs sz v U ∧ wFN U
def w_QcN (G : wG) (t t1 : wS) (S : List (Nat × Nat)) (sz : Nat) : Array Value → State → Outcome → State → Prop := fun _ st oc u => oc = .returned none ∧ (∃ al : Nat → Nat, (∀ k, k < (gl G).length ∨ 1000 ≤ k → al k = ga G k) ∧ va_P (gD G) vwCl (w_world (gX G al S) t1) u.heap ∧ va_D (va_A (w_world G t) sz) (w_world (gX G al S) t1)) ∧ va_F (va_A (w_world G t) sz) st u
/-- the contract of a constructor: the cells S come behind the n that are there, the memory is eff c n t -/
def MetN (y : MethodName) (cc : ByteArray) (nL d : Nat) (S : List (Nat × Nat)) (sl ci : Nat) (eff : Nat → Nat → wS → wS) : Prop :=
  ∀ (l : Launch) (G : wG) (t : wS) (c sz : Nat), (gl G).length + S.length < 1000 → Fr t (gl G).length → gsh G c = (0, ci) → (∀ k, t.1 c k = 0) → Met l y (Cond.code y cc nL none :: w_ws) { frames := d, cells := S.length, slots := sl, locals := 100 * d } (w_PcN G t [.ref c] sz) (w_QcN G t (eff c (gl G).length t) S sz) S.length sl (va_A (w_world G t) sz)
section CTOR
variable {own : String} {cc : ByteArray} {nL d n0 cM sM : Nat} {X0 : wX} {S : List (Nat × Nat)} {c sl pc p1 pB pC w : Nat} {ls : wL} {stk : List Value} {t : wS}
theorem gn_S (hC : CN own cc nL d X0 n0 cM sM) (hc : c ≤ cM) (hs : sl ≤ sM) {b : (Nat → Nat × Nat) → wSt} {ls1 : wL} {t1 : wS} (h : ∀ X : wX, CX own cc nL none d X → CmpS nL X pc p1 pB pC (b (gsh (xG X)))) (he : b (shS X0 S) ls t = some (0, none, ls1, t1)) (kk : GN nL X0 S c sl p1 ls1 [] t1) : GN nL X0 S c sl pc ls [] t := fun al hal => h _ (hC.cx hal hc hs) ls t _ he ⟨fun _ => kk al hal, fun h => (by cases h), fun h => (by cases h), fun h => (by cases h)⟩
theorem gn_R (hC : CN own cc nL d X0 n0 cM sM) (hc : c ≤ cM) (hs : sl ≤ sM) {b : (Nat → Nat × Nat) → wER} {v : Nat} (h : ∀ X : wX, CX own cc nL none d X → CmpR nL X 9 pc p1 (b (gsh (xG X)))) (he : b (shS X0 S) ls t = some (v, t)) (hw : wcat stk ≤ 9) (kk : GN nL X0 S c sl p1 ls (.ref v :: stk) t) : GN nL X0 S c sl pc ls stk t := fun al hal => h _ (hC.cx hal hc hs) ls stk t v t he hw (kk al hal)
theorem gn_E (hC : CN own cc nL d X0 n0 cM sM) (hc : c ≤ cM) (hs : sl ≤ sM) {b : (Nat → Nat × Nat) → wEI} {v : Int32} (h : ∀ X : wX, CX own cc nL none d X → CmpE nL X 9 pc p1 (b (gsh (xG X)))) (he : b (shS X0 S) ls t = some (v, t)) (hw : wcat stk ≤ 9) (kk : GN nL X0 S c sl p1 ls (.int v :: stk) t) : GN nL X0 S c sl pc ls stk t := fun al hal => h _ (hC.cx hal hc hs) ls stk t v t he hw (kk al hal)
theorem gn_T (hC : CN own cc nL d X0 n0 cM sM) (hc : c ≤ cM) (hs : sl ≤ sM) {b : (Nat → Nat × Nat) → wC} {pF : Nat} (h : ∀ X : wX, CX own cc nL none d X → CmpC nL X 9 pc p1 pF (b (gsh (xG X)))) (he : b (shS X0 S) ls t = some (true, t)) (hw : wcat stk ≤ 9) (kk : GN nL X0 S c sl p1 ls stk t) : GN nL X0 S c sl pc ls stk t := fun al hal => h _ (hC.cx hal hc hs) ls stk t _ t he hw (fun _ => kk al hal) (fun h => by cases h)
theorem gn_F (hC : CN own cc nL d X0 n0 cM sM) (hc : c ≤ cM) (hs : sl ≤ sM) {b : (Nat → Nat × Nat) → wC} {pT : Nat} (h : ∀ X : wX, CX own cc nL none d X → CmpC nL X 9 pc pT p1 (b (gsh (xG X)))) (he : b (shS X0 S) ls t = some (false, t)) (hw : wcat stk ≤ 9) (kk : GN nL X0 S c sl p1 ls stk t) : GN nL X0 S c sl pc ls stk t := fun al hal => h _ (hC.cx hal hc hs) ls stk t _ t he hw (fun h => by cases h) (fun _ => kk al hal)
theorem gn_dup (hC : CN own cc nL d X0 n0 cM sM) (hc : c ≤ cM) (hs : sl ≤ sM) {v : Value} (hv : v.category = 1) (hd : decode cc pc = .ok (.dup, 1)) (kk : GN nL X0 S c sl (pc + 1) ls (v :: v :: stk) t) : GN nL X0 S c sl pc ls (v :: stk) t := fun al hal => g_dup (hC.cx hal hc hs) hv hd (kk al hal)
theorem gn_goto (hC : CN own cc nL d X0 n0 cM sM) (hc : c ≤ cM) (hs : sl ≤ sM) {off : Int} (hd : decode cc pc = .ok (.goto off, 3)) (ht : (pc : Int) + off = (p1 : Int)) (kk : GN nL X0 S c sl p1 ls stk t) : GN nL X0 S c sl pc ls stk t := fun al hal => g_goto (hC.cx hal hc hs) hd ht (kk al hal)
theorem gn_obj (hC : CN own cc nL d X0 n0 cM sM) (hc : c ≤ cM) (hs : sl ≤ sM) {b i : Nat} (hl : Jvm.Cond.methodLink own i objectInit ∈ w_ws) (hi : Jvm.Cond.instanceMethod objectInit ∈ w_ws) (hcd : Jvm.Cond.code objectInit ⟨#[0xb1]⟩ 1 none ∈ w_ws) (hw : wcat stk ≤ 8) (hd : decode cc pc = .ok (.invokespecial i, 3)) (kk : GN nL X0 S c sl (pc + 3) ls stk t) : GN nL X0 S c sl pc ls (.ref b :: stk) t := by
  intro al hal H locs lsA hR hL
  have hX := hC.cx (S := S) (c := c) (sl := sl) hal hc hs
  have hr := hX.room
  refine W.objInit hX.x hX.b hX.ow (hX.ts _ hl) (hX.ts _ hi) (hX.ts _ hcd) rfl (by rw [hX.ml]; exact hL.2.1) rfl hd (by omega) ?_ ?_
  · show 2 * 0 + ((stk.map (cv al)).map fun v => v.category).sum + 12 ≤ _
    rw [wcat_cv]
    omega
  · exact kk al hal H locs lsA hR hL
theorem gn_putR (hC : CN own cc nL d X0 n0 cM sM) (hc : c ≤ cM) (hs : sl ≤ sM) (hini : (xme X0).name = "<init>") {C ref nm ds : String} {T : u_T} {N ci k i b r : Nat} {ty0 : Nat → FieldType} {ty : FieldType} (hcl : vwCl[ci]? = some (C, T, N)) (hin : ∀ w ∈ u_ws C T N, w ∈ w_ws) (hN : wnf ci = N) (hk : k < N) (hkd : wkd ci k = 2) (hT : T k = (ref, nm, ds, true)) (hown : ref = own) (hl : Jvm.Cond.fieldLink own i ref nm ds ∈ w_ws) (hty : ∀ k, k < N → parseFieldDescriptor (T k).2.2.1 = some (ty0 k)) (hnm : ∀ a, a < N → ∀ b, b < N → a ≠ b → (T a).2.1 ≠ (T b).2.1) (hds : parseFieldDescriptor ds = some ty) (hfit : ∀ a : Nat, narrow ty (.ref a) = .ref a ∧ fits ty (.ref a) = true) (hsh : shS X0 S b = (0, ci)) (hr5 : ¬ r = 5000) (hd : decode cc pc = .ok (.putfield i, 3)) (kk : GN nL X0 S c sl (pc + 3) ls stk (wUR t b k r)) : GN nL X0 S c sl pc ls (.ref r :: .ref b :: stk) t := by
  intro al hal H locs lsA hR hL
  have hX := hC.cx (S := S) (c := c) (sl := sl) hal hc hs
  have hsh' : gsh (xG (xX X0 al S c sl)) b = (0, ci) := hsh
  have e1 : (T k).1 = ref := by rw [hT]
  have e2 : (T k).2.1 = nm := by rw [hT]
  have e3 : (T k).2.2.1 = ds := by rw [hT]
  have e4 : (T k).2.2.2 = true := by rw [hT]
  refine va_putF (v := .ref (al r)) (own := own) (C := C) (T := T) (N := N) (ref := ref) hX.x hX.b hX.ts hin ty0 hty hnm hX.ow hX.K hR.1 hR.2.1 hR.2.2 b (w_at_obj t hsh') hcl k hk (by rw [e2, e3]; exact hX.ts _ hl) (fun x h => by rw [e1] at h; exact h) e4 hini (e1.trans hown) (by rw [e3]; exact hds) (hfit _).1 (hfit _).2 (by simpa [hN] using hk) hd (fun H1 locs1 hP hD hS => ?_)
  have hw : (w_world (xG (xX X0 al S c sl)) t).set b (ga (xG (xX X0 al S c sl)) b, .inr (ci, ((List.range (wnf ci)).map (w_fv (ga (xG (xX X0 al S c sl))) t b ci)).set k (.ref (al r)))) = w_world (xG (xX X0 al S c sl)) (wUR t b k r) := by
    refine w_set (gsh_lt hsh' (by decide)) ?_ (fun _ _ => rfl) (fun j hj => if_neg hj)
    unfold w_cell
    rw [hsh']
    show Sum.inr (ci, (List.range (wnf ci)).map (w_fv al (wUR t b k r) b ci)) = Sum.inr (ci, ((List.range (wnf ci)).map (w_fv al t b ci)).set k (.ref (al r)))
    have he : (List.range (wnf ci)).map (w_fv al (wUR t b k r) b ci) = ((List.range (wnf ci)).map (w_fv al t b ci)).set k (.ref (al r)) := by
      apply List.ext_getElem?
      intro j
      by_cases hj : j = k
      · subst hj
        rw [List.getElem?_set_self (by simpa [hN] using hk), List.getElem?_map, List.getElem?_range (by rw [hN]; exact hk)]
        show some (w_fv al (wUR t b j r) b ci j) = _
        unfold w_fv wUR w_rf
        rw [if_pos hkd]
        simp [va_up, hr5, va_rf]
      · rw [List.getElem?_set_ne (Ne.symm hj)]
        by_cases hl : j < wnf ci
        · rw [List.getElem?_map, List.getElem?_map, List.getElem?_range hl]
          show some (w_fv al (wUR t b k r) b ci j) = some (w_fv al t b ci j)
          unfold w_fv wUR
          simp [va_up, hj]
        · rw [List.getElem?_eq_none (by simp; omega), List.getElem?_eq_none (by simp; omega)]
    rw [he]
  rw [hw] at hP hD
  exact kk al hal H1 locs1 lsA ⟨hP, hD, hS⟩ hL
theorem gn_aast (hC : CN own cc nL d X0 n0 cM sM) (hc : c ≤ cM) (hs : sl ≤ sM) {T : u_T} {N ci b r : Nat} {i : Int32} (hcl : vwCl[ci]? = some ("WoundTape$Stand", T, N)) (h3 : (shS X0 S b).1 = 3) (hin : wIn i (shS X0 S b).2 = true) (hr : shS X0 S r = (0, ci)) (hr5 : ¬ r = 5000) (hd : decode cc pc = .ok (.aastore, 1)) (kk : GN nL X0 S c sl (pc + 1) ls stk (wUR t b i.toNatClampNeg r)) : GN nL X0 S c sl pc ls (.ref r :: .int i :: .ref b :: stk) t := by
  intro al hal H locs lsA hR hL
  have hX := hC.cx (S := S) (c := c) (sl := sl) hal hc hs
  have hb : gsh (xG (xX X0 al S c sl)) b = (3, (shS X0 S b).2) := by
    show shS X0 S b = _
    rw [← h3]
  have hr' : gsh (xG (xX X0 al S c sl)) r = (0, ci) := hr
  refine va_astq hX.x hX.b hX.K hR.1 hR.2.1 hR.2.2 b 2 r ci (w_at_arr3 t hb) (r := ("WoundTape$Stand", T, N)) rfl (w_at_obj t hr') hcl (wIn_in hin) hd (fun H1 locs1 hP hD hS => ?_)
  rw [w_setR hb hr5] at hP hD
  exact kk al hal H1 locs1 lsA ⟨hP, hD, hS⟩ hL
/-- the constructor of another class, on a cell that was made -/
theorem gn_call (hC : CN own cc nL d X0 n0 cM sM) {y : MethodName} {cc' : ByteArray} {nL' i d' sl' ci b c2 sl2 : Nat} {S' : List (Nat × Nat)} {eff : Nat → Nat → wS → wS} (hM : MetN y cc' nL' d' S' sl' ci eff) (hyn : y.name = "<init>") (hcd : Jvm.Cond.code y cc' nL' none ∈ w_ws) (hi : Jvm.Cond.instanceMethod y ∈ w_ws) (hn : Jvm.Cond.initialized y.cls ∈ w_ws) (hy : y.cls ≠ "java/lang/invoke/MethodHandle" ∧ y.cls ≠ "java/lang/invoke/VarHandle" ∧ (parseMethodDescriptor y.desc).map (fun d => d.parameters.length) = some 0) (hd' : d' + 1 ≤ d) (hnL : nL' ≤ 81)
    (hl : Jvm.Cond.methodLink own i y ∈ w_ws ∨ ∃ host, (own, i, y, host) ∈ wNest) (hsh : shS X0 S b = (0, ci)) {n : Nat} (hnn : n0 + S.length = n) (hn0 : n + S'.length < 1000) (hc2 : c + S'.length = c2) (hs2 : sl + sl' = sl2) (hc : c2 ≤ cM) (hs : sl2 ≤ sM) (hz : ∀ k, t.1 b k = 0) (hF : Fr t n) (hls : wBel n ls) (hst : wBel n stk) (hw : wcat stk ≤ 8) (hd : decode cc pc = .ok (.invokespecial i, 3)) (kk : GN nL X0 (S ++ S') c2 sl2 (pc + 3) ls stk (eff b n t)) : GN nL X0 S c sl pc ls (.ref b :: stk) t := by
  subst hnn
  subst hc2
  subst hs2
  intro al hal H locs lsA hR hL
  have hX := hC.cx (S := S) (c := c) (sl := sl) hal (by omega) (by omega)
  obtain ⟨h1, h2, h3, h4, h5, h6, h7, h8⟩ := hC
  subst h4
  have hlen : (gl (gX (xG X0) al S)).length = (gl (xG X0)).length + S.length := gl_gX _ _ _
  have hMet := hM (xl X0) (gX (xG X0) al S) t b H.size (by rw [hlen]; exact hn0) (by rw [hlen]; exact hF) hsh hz
  have hr := hX.room
  have hwords : ∀ w ∈ (Cond.code y cc' nL' none :: w_ws), ∀ (a' : Array Value) (U : State), (xs X0).WarmedH U.vm → w.before a' U = true := by
    intro w hw a' U hW
    rcases List.mem_cons.mp hw with rfl | hw
    · exact word_at hW (w_ws_good _ hcd) (hX.ts _ hcd)
    · exact word_at hW (w_ws_good _ hw) (hX.ts _ hw)
  have hsig : ∀ sig, parseMethodDescriptor y.desc = some sig → 0 = sig.parameters.length := fun sig h => by
    have h2 := hy.2.2
    rw [h] at h2
    exact (Option.some.inj h2).symm
  have hpre : PreS (xs X0) H (w_PcN (gX (xG X0) al S) t [.ref b] H.size) (([.ref b] : List Value).map (cv al)) := by
    refine ⟨fun a U g mk hq => ⟨w_blind _ _ _ _ a U g mk hq.1, wFN.same (u := U) (U := U.calling g mk a) rfl hq.2⟩, fun U hU hW => ⟨w_pre (vs := [.ref b]) hX hR U hU hW, h2.warm hW⟩⟩
  have hfr : d' + 1 ≤ (xR X0).frames ∧ 8 + (nL' + 11) + 100 * d' ≤ (xR X0).locals := by
    have hr : d ≤ (xR X0).frames ∧ 100 * d ≤ (xR X0).locals ∧ 0 < d := hr
    omega
  have hsp : xcl X0 + c + S'.length ≤ (xR X0).cells ∧ xsl X0 + sl + sl' ≤ (xR X0).slots := by
    rw [h7, h8, h5, h6]
    omega
  have hrun : va_Run (xp X0) (xl X0) (xe X0) (xR X0) (xs X0) (xm X0) (xa X0) (xb X0) (xme X0) (xc X0) H locs (xcl X0 + c) (xsl X0 + sl) S'.length sl' (F0 (xm X0) pc lsA (.ref (al b) :: stk.map (cv al))) (stk.map (cv al)) (w_QcN (gX (xG X0) al S) t (eff b (gl (gX (xG X0) al S)).length t) S' H.size (Value.ref (al b) :: []).toArray) (va_A (w_world (gX (xG X0) al S) t) H.size) := by
    rcases hl with hl | ⟨host, hl⟩
    · exact va_runI (As := []) (rest := stk.map (cv al)) ⟨hX.x, hX.b, hX.ml, hX.ow, hX.ts⟩ hMet ⟨⟨rfl, rfl, hfr.1, hfr.2, hwords, List.mem_cons_self, hX.ts _ hcd, hX.ts _ hn, ⟨hy.1, hy.2.1⟩, hsig, hX.ts _ hl⟩, hyn, hX.ts _ hi⟩ hpre rfl rfl hL.2.1 rfl (lv_room (by rw [wcat_cv]; exact hw)) hd hsp
    · exact va_runIN (host := host) (As := []) (rest := stk.map (cv al)) ⟨hX.x, hX.b, hX.ml, hX.ow, hX.ts⟩ hMet ⟨⟨⟨rfl, rfl, hfr.1, hfr.2, hwords, List.mem_cons_self⟩, hX.ts _ hcd, hX.ts _ hn, ⟨hy.1, hy.2.1⟩, hsig, h2.2.2 _ hl⟩, hyn, hX.ts _ hi⟩ hpre rfl rfl hL.2.1 rfl (lv_room (by rw [wcat_cv]; exact hw)) hd hsp
  intro T hT Xs
  obtain ⟨v, st₀, u, T', L, h0, X', hLL, e1, e2, ⟨hv, ⟨be, hbe, hP1, hD1⟩, hz, hk⟩, st⟩ := hrun T hT Xs
  have hv' : v = none := Outcome.returned.inj hv
  subst hv'
  rw [h0] at hz hk
  have hsub := w_sub hX hR
  have hbe1 : ∀ k, k < (gl (xG X0)).length + S.length ∨ 1000 ≤ k → be k = al k := fun k hk => hbe k (hk.imp (fun h => by rw [hlen]; exact h) id)
  have hbe2 : ∀ k, k < (gl (xG X0)).length ∨ 1000 ≤ k → be k = ga (xG X0) k := fun k hk => by
    rcases hk with hk | hk
    · rw [hbe1 k (by omega)]
      exact hal k (Or.inl hk)
    · rw [hbe k (Or.inr hk)]
      exact hal k (Or.inr hk)
  rw [gX_gX, hlen] at hP1 hD1
  have hgo := kk be hbe2 T'.heap (locs ++ L) lsA ⟨by rw [e1]; exact hP1, hD1.weaken (fun _ q _ h => hsub q.1 h), Nat.le_trans hR.2.2.1 (by rw [e1]; exact hz), fun q h1 h2 => by rw [e1, hk q (Nat.lt_of_lt_of_le h1 hR.2.2.1) (fun z => h2 (hsub q z))]; exact hR.2.2.2.1 q h1 h2, fun q hq => by
      rcases List.mem_append.mp hq with h | h
      · exact hR.2.2.2.2 q h
      · exact hsub _ (hLL q h)⟩ (ls_ext hbe1 hls hL)
  have hgo : W (xp X0) (xl X0) (xe X0) (xR X0) (xs X0) (xm X0) (xa X0) (xb X0) (xme X0) (xc X0) T'.heap (locs ++ L) (xcl X0 + (c + S'.length)) (xsl X0 + (sl + sl')) (xQ X0) (F0 (xm X0) (pc + 3) lsA (stk.map (cv be))) := hgo
  rw [← Nat.add_assoc, ← Nat.add_assoc, cv_ext hbe1 hst] at hgo
  obtain ⟨t2, a1, b1⟩ := hgo T' rfl X'
  exact ⟨t2, st t2 a1, b1⟩
end CTOR
/-- a constructor's contract out of its walk -/
theorem mMetN {y : MethodName} {own : String} (ho : y.cls = own) (hyn : y.name = "<init>") (hy : plainFor y = true) {cc : ByteArray} {nL d sl ci : Nat} {S : List (Nat × Nat)} {eff : Nat → Nat → wS → wS} (hd : 0 < d) (hnL : 1 ≤ nL)
    (h : ∀ (X0 : wX) (n0 c : Nat) (t : wS), CN own cc nL d X0 n0 S.length sl → (xme X0).name = "<init>" → gsh (xG X0) c = (0, ci) → c < n0 → n0 + S.length < 1000 → Fr t n0 → (∀ k, t.1 c k = 0) →
      (∀ (pc : Nat) (ls : wL), decode cc pc = .ok (.return_, 1) → GN nL X0 S S.length sl pc ls [] (eff c n0 t)) → GN nL X0 [] 0 0 0 (.ref c :: List.replicate (nL - 1) wjk) [] t) : MetN y cc nL d S sl ci eff := by
  subst ho
  intro l G t c0 sz hn hF hsh hz
  refine va_MetF (cc := cc) (maxL := nL) (ret := none) hy rfl ?_
  intro p e s m args below meth c s₁ B hml hv
  obtain ⟨⟨rfl, hsz, hP, hK, hD, hFa⟩, hFN⟩ := hv
  subst hsz
  have hts : ∀ w ∈ w_ws, w.before (([.ref c0] : List Value).map (cv (ga G))).toArray s = true := fun w hw => atoms_spec (ws := Cond.code y cc nL none :: w_ws) B.pre w (List.mem_cons_of_mem _ hw)
  have hlocks := B.notSynchronized
  have hx := B.exec
  have hb := B.bytes
  have hr := B.returns
  have hin : meth.name = "<init>" := by rw [← hyn]; exact (name_of_methodNamed B.named B.method).1
  let X : wX := ((p, l, e, (headSpec (Cond.code y cc nL none :: w_ws) { frames := d, cells := S.length, slots := sl, locals := 100 * d }).room, s), (m, (([.ref c0] : List Value).map (cv (ga G))).toArray, below, meth, c), MQ below (w_QcN G t (eff c0 (gl G).length t) S s.heap.size) (([.ref c0] : List Value).map (cv (ga G))).toArray s S.length sl (va_A (w_world G t) s.heap.size), G, (va_A (w_world G t) s.heap.size, s.heap), (some .null, t), (0, 0))
  have hret : XRet cc none X := by
    intro H locs lsA pc hR
    exact ⟨fun h => (by cases h), fun v ty h => (by cases h), fun v h => (by cases h)⟩
  have hCX : CX y.cls cc nL none d X := ⟨hx, hb, hml, findClass_of_methodNamed B.named, hts, hK, ⟨Nat.le_refl _, Nat.le_refl _, hd⟩, ⟨Nat.zero_le _, Nat.zero_le _⟩, hFa, fun q hq => Or.inr hq, rfl, hret⟩
  have hc0 : c0 < (gl G).length := gsh_lt hsh (by decide)
  have hend : ∀ (pc : Nat) (ls : wL), decode cc pc = .ok (.return_, 1) → GN nL X S S.length sl pc ls [] (eff c0 (gl G).length t) := by
    intro pc ls hdc al hal H locs lsA hR hL
    refine W.widen (k := S.length) (n := sl) (by show 0 + S.length ≤ _; omega) (by show 0 + sl ≤ _; omega) ?_
    exact W.vret hx hb hr (fun u hu _ => ⟨rfl, ⟨al, hal, by rw [hu]; exact hR.1, hR.2.1⟩, hR.2.2.F hu⟩) hR.2.2.2.2 hdc hlocks
  have hgo := h X (gl G).length c0 t ⟨hCX, hFN, rfl, rfl, rfl, rfl, rfl, rfl⟩ hin hsh hc0 hn hF hz hend (ga G) (fun _ _ => rfl)
  rw [lg_entry_eq]
  have hw : gX G (ga G) [] = G := by
    show (gD G, gI G, ga G, gl G ++ []) = G
    rw [List.append_nil]
  have hR0 : RepH (xX X (ga G) [] 0 0) t s.heap [] := by
    refine ⟨?_, ?_, va_S.rf⟩
    · show va_P _ _ (w_world (gX G (ga G) []) t) _
      rw [hw]
      exact hP
    · show va_D _ (w_world (gX G (ga G) []) t)
      rw [hw]
      exact hD.self
  exact hgo s.heap [] _ hR0 (w_entry (G := G) (nL := nL) (vs := [.ref c0]) hnL rfl)
