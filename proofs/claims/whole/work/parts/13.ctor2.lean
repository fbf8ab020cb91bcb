/-- a constructor's walk: S are the cells that it has made, c how many, sl their slots; the addresses are whatever they are -/
def GN (nL : Nat) (X0 : wX) (S : List (Nat × Nat)) (c sl pc : Nat) (ls : wL) (stk : List Value) (t : wS) : Prop := ∀ al : Nat → Nat, (∀ k, k < (gl (xG X0)).length ∨ 1000 ≤ k → al k = ga (xG X0) k) → Go nL (xX X0 al S c sl) pc ls stk t
/-- what stands all along -/
def CN (own : String) (cc : ByteArray) (nL d : Nat) (X0 : wX) (n0 cM sM : Nat) : Prop := CX own cc nL none d X0 ∧ wFN (xs X0) ∧ (xfin X0).1 = some .null ∧ (gl (xG X0)).length = n0 ∧ (xR X0).cells = cM ∧ (xR X0).slots = sM ∧ xcl X0 = 0 ∧ xsl X0 = 0
theorem CN.cx {own : String} {cc : ByteArray} {nL d n0 cM sM : Nat} {X0 : wX} (h : CN own cc nL d X0 n0 cM sM) {al : Nat → Nat} {S : List (Nat × Nat)} {c sl : Nat} (hal : ∀ k, k < (gl (xG X0)).length ∨ 1000 ≤ k → al k = ga (xG X0) k) (hc : c ≤ cM) (hs : sl ≤ sM) : CX own cc nL none d (xX X0 al S c sl) := by
  obtain ⟨h1, h2, h3, h4, h5, h6, h7, h8⟩ := h
  exact h1.ext hal h3 ⟨by rw [h5, h7]; omega, by rw [h6, h8]; omega⟩
def alN (al : Nat → Nat) (n q : Nat) : Nat → Nat := fun k => if k = n then q else al k
theorem gX_gX (G : wG) (al be : Nat → Nat) (S T : List (Nat × Nat)) : gX (gX G al S) be T = gX G be (S ++ T) := by
  show (gD G, gI G, be, (gl G ++ S) ++ T) = (gD G, gI G, be, gl G ++ (S ++ T))
  rw [List.append_assoc]
theorem gl_gX (G : wG) (al : Nat → Nat) (S : List (Nat × Nat)) : (gl (gX G al S)).length = (gl G).length + S.length := by
  show (gl G ++ S).length = _
  rw [List.length_append]
/-- one more cell -/
theorem w_push {G : wG} {al : Nat → Nat} {S : List (Nat × Nat)} {e : Nat × Nat} {t : wS} {q : Nat} (hF : Fr t ((gl G).length + S.length)) : w_world (gX G (alN al ((gl G).length + S.length) q) (S ++ [e])) t = w_world (gX G al S) t ++ [(q, w_cell (gX G (alN al ((gl G).length + S.length) q) (S ++ [e])) t ((gl G).length + S.length))] := by
  have h := w_world_ext (G := gX G al S) (t := t) (al := alN al ((gl G).length + S.length) q) (S := [e]) (fun k hk => by
    rw [gl_gX] at hk
    unfold alN
    rw [if_neg (by omega)]
    rfl) (by rw [gl_gX]; exact hF.1)
  rw [gX_gX] at h
  rw [h]
  congr 1
  rw [gl_gX]
  simp [alN]
theorem gsh_last {G : wG} {al : Nat → Nat} {S : List (Nat × Nat)} {e : Nat × Nat} : gsh (gX G al (S ++ [e])) ((gl G).length + S.length) = e := by
  rw [gsh_new]
  rw [List.getD_eq_getElem?_getD, List.getElem?_append_right (Nat.le_refl _), Nat.sub_self]
  rfl
section CTOR
variable {own : String} {cc : ByteArray} {nL d n0 cM sM : Nat} {X0 : wX} {S : List (Nat × Nat)} {c sl pc : Nat} {ls : wL} {stk : List Value} {t : wS}
theorem gn_next {n : Nat} {al : Nat → Nat} {q : Nat} {H1 : Heap} {locs : List Loc} {lsA : Array Slot} {e : Nat × Nat} {sl' : Nat} (hn : (gl (xG X0)).length + S.length = n) (hal : ∀ k, k < (gl (xG X0)).length ∨ 1000 ≤ k → al k = ga (xG X0) k) (h1000 : n < 1000) (hF : Fr t n) (hls : wBel n ls) (hst : wBel n stk) {e1 : va_E} (he1 : ∀ al' : Nat → Nat, w_cell (gX (xG X0) al' (S ++ [e])) t n = e1)
    (hP : va_P (gD (xG X0)) vwCl (w_world (gX (xG X0) al S) t ++ [(q, e1)]) H1) (hD : va_D (xA X0) (w_world (gX (xG X0) al S) t ++ [(q, e1)])) (hS : va_S (xA X0) (xH0 X0) H1 locs) (hL : LsOK al nL ls lsA) {pc' : Nat}
    (kk : GN nL X0 (S ++ [e]) (c + 1) (sl + sl') pc' ls (.ref n :: stk) t) : WW (xX X0 (alN al n q) (S ++ [e]) (c + 1) (sl + sl')) H1 locs (F0 (xm X0) pc' lsA (.ref q :: stk.map (cv al))) := by
  subst hn
  have hnew : ∀ k, k < (gl (xG X0)).length + S.length ∨ 1000 ≤ k → alN al ((gl (xG X0)).length + S.length) q k = al k := fun k hk => by unfold alN; rw [if_neg (by omega)]
  have hal2 : ∀ k, k < (gl (xG X0)).length ∨ 1000 ≤ k → alN al ((gl (xG X0)).length + S.length) q k = ga (xG X0) k := fun k hk => by
    unfold alN
    rw [if_neg (by omega)]
    exact hal k hk
  have hw := w_push (G := xG X0) (al := al) (S := S) (e := e) (t := t) (q := q) hF
  rw [he1] at hw
  have h := kk (alN al ((gl (xG X0)).length + S.length) q) hal2 H1 locs lsA ⟨by
    show va_P _ _ (w_world (gX (xG X0) (alN al ((gl (xG X0)).length + S.length) q) (S ++ [e])) t) H1
    rw [hw]; exact hP, by
    show va_D _ (w_world (gX (xG X0) (alN al ((gl (xG X0)).length + S.length) q) (S ++ [e])) t)
    rw [hw]; exact hD, hS⟩ (ls_ext hnew hls hL)
  have hs : (Value.ref ((gl (xG X0)).length + S.length) :: stk).map (cv (alN al ((gl (xG X0)).length + S.length) q)) = .ref q :: stk.map (cv al) := by
    rw [List.map_cons, cv_ext hnew hst]
    show Value.ref (alN al ((gl (xG X0)).length + S.length) q ((gl (xG X0)).length + S.length)) :: _ = _
    unfold alN
    rw [if_pos rfl]
  rw [← hs]
  exact h
theorem fr_zero {n : Nat} (hF : Fr t n) : t.1 n = fun _ => 0 := funext fun k => (hF.2 n k (Nat.le_refl _)).1
theorem fr_null {n : Nat} (hF : Fr t n) (al : Nat → Nat) : (fun j => w_rf al (t.2 n j)) = fun _ => none := funext fun k => by
  unfold w_rf
  rw [if_pos (hF.2 n k (Nat.le_refl _)).2]
theorem gn_newarr (hC : CN own cc nL d X0 n0 cM sM) {v : Int32} {N n : Nat} (hv : ¬ v < 0) (hN : v.toNatClampNeg = N) (hb : N * 4 ≤ 536870912) (hn : n0 + S.length = n) (h1000 : n < 1000) (hc : c + 1 ≤ cM) (hs : sl + N ≤ sM) (hF : Fr t n) (hls : wBel n ls) (hst : wBel n stk) (hd : decode cc pc = .ok (.newarray .int, 2)) (kk : GN nL X0 (S ++ [(1, N)]) (c + 1) (sl + N) (pc + 2) ls (.ref n :: stk) t) : GN nL X0 S c sl pc ls (.int v :: stk) t := by
  intro al hal H locs lsA hR hL
  have hX := hC.cx (S := S) (c := c) (sl := sl) hal (by omega) (by omega)
  obtain ⟨h1, h2, h3, h4, h5, h6, h7, h8⟩ := hC
  subst h4
  have hX' := hX
  refine va_newa (atype := .int) (ty := .int) (a0 := (N, .inl fun _ => 0)) hX.x hX.b (hX.ts _ wd_181) rfl hX.K hR.1 hR.2.1 hR.2.2 hX.hA (fun cA => rfl) hv hN hb (by show xcl X0 + c + 1 ≤ _; rw [h7]; show 0 + c + 1 ≤ (xR X0).cells; rw [h5]; omega) (by show xsl X0 + sl + N ≤ _; rw [h8]; show 0 + sl + N ≤ (xR X0).slots; rw [h6]; omega) hd (fun q cA H1 hK1 hP1 hD1 hS1 => ?_)
  have e1 : cA = gI (xG X0) 0 := by
    have a1 := (hK1.2 3 (cA, .int) rfl).2
    have a2 := (hK1.2 0 (gI (xG X0) 0, .int) rfl).2
    have a1 : (xs X0).vm.findClass _ = some cA := a1
    have a2 : (xs X0).vm.findClass _ = some (gI (xG X0) 0) := a2
    exact Option.some.inj (a1.symm.trans a2)
  subst e1
  have h := gn_next (nL := nL) (c := c) (sl := sl) (ls := ls) (stk := stk) (lsA := lsA) (e := (1, N)) (sl' := N) hn hal h1000 hF hls hst (e1 := .inl (gI (xG X0) 0, N, .inl fun _ => 0)) (fun al' => by
    have hg := gsh_last (G := xG X0) (al := al') (S := S) (e := (1, N))
    rw [hn] at hg
    unfold w_cell
    rw [hg, fr_zero hF]
    rfl) hP1 hD1 hS1 hL kk
  have h : W (xp X0) (xl X0) (xe X0) (xR X0) (xs X0) (xm X0) (xa X0) (xb X0) (xme X0) (xc X0) H1 locs (xcl X0 + (c + 1)) (xsl X0 + (sl + N)) (xQ X0) (F0 (xm X0) (pc + 2) lsA (.ref q :: stk.map (cv al))) := h
  rw [← Nat.add_assoc (xsl X0)] at h
  exact h
theorem gn_newobj (hC : CN own cc nL d X0 n0 cM sM) {C : String} {T : u_T} {N ci i n : Nat} {ty : Nat → FieldType} (hcl : vwCl[ci]? = some (C, T, N)) (hin : ∀ w ∈ u_ws C T N, w ∈ w_ws) (hty : ∀ k, k < N → parseFieldDescriptor (T k).2.2.1 = some (ty k)) (hNw : wnf ci = N) (hkd : ∀ k, k < N → defaultValue (ty k) = if wkd ci k = 2 then .null else .int 0) (hl : Jvm.Cond.classLink own i C ∈ w_ws) (hi : Jvm.Cond.instantiable C N ∈ w_ws) (hin2 : Jvm.Cond.initialized C ∈ w_ws) (hn : n0 + S.length = n) (h1000 : n < 1000) (hc : c + 1 ≤ cM) (hs : sl + N ≤ sM) (hF : Fr t n) (hls : wBel n ls) (hst : wBel n stk) (hd : decode cc pc = .ok (.new i, 3)) (kk : GN nL X0 (S ++ [(0, ci)]) (c + 1) (sl + N) (pc + 3) ls (.ref n :: stk) t) : GN nL X0 S c sl pc ls stk t := by
  intro al hal H locs lsA hR hL
  have hX := hC.cx (S := S) (c := c) (sl := sl) hal (by omega) (by omega)
  obtain ⟨h1, h2, h3, h4, h5, h6, h7, h8⟩ := hC
  subst h4
  have hfv : ∀ al' k, k < N → w_fv al' t n ci k = defaultValue (ty k) := fun al' k hk => by
    rw [hkd k hk]
    unfold w_fv w_rf
    rw [(hF.2 n k (Nat.le_refl _)).1, if_pos (hF.2 n k (Nat.le_refl _)).2]
    rfl
  have hlist : ∀ al', (List.range N).map (w_fv al' t n ci) = (List.range N).map (fun k => defaultValue (ty k)) := fun al' => List.map_congr_left fun k hk => hfv al' k (List.mem_range.mp hk)
  refine va_new (ci := ci) (fs := (List.range N).map (fun k => defaultValue (ty k))) hX.x hX.b hX.ts hin ty hty hX.ow (hX.ts _ hl) (hX.ts _ hi) (hX.ts _ hin2) hX.K hR.1 hR.2.1 hR.2.2 hX.hA hcl (fun j hj => by
    unfold vp_V
    rw [List.getD_eq_getElem?_getD, List.getElem?_map, List.getElem?_range hj]
    rfl) (by show xcl X0 + c + 1 ≤ _; rw [h7]; show 0 + c + 1 ≤ (xR X0).cells; rw [h5]; omega) (by show xsl X0 + sl + N ≤ _; rw [h8]; show 0 + sl + N ≤ (xR X0).slots; rw [h6]; omega) hd (fun q H1 hP1 hD1 hS1 => ?_)
  have h := gn_next (nL := nL) (c := c) (sl := sl) (ls := ls) (stk := stk) (lsA := lsA) (e := (0, ci)) (sl' := N) hn hal h1000 hF hls hst (e1 := .inr (ci, (List.range N).map (fun k => defaultValue (ty k)))) (fun al' => by
    have hg := gsh_last (G := xG X0) (al := al') (S := S) (e := (0, ci))
    rw [hn] at hg
    unfold w_cell
    rw [hg, ← hlist al', ← hNw]
    rfl) hP1 hD1 hS1 hL kk
  have h : W (xp X0) (xl X0) (xe X0) (xR X0) (xs X0) (xm X0) (xa X0) (xb X0) (xme X0) (xc X0) H1 locs (xcl X0 + (c + 1)) (xsl X0 + (sl + N)) (xQ X0) (F0 (xm X0) (pc + 3) lsA (.ref q :: stk.map (cv al))) := h
  rw [← Nat.add_assoc (xsl X0)] at h
  exact h
theorem gn_anew (hC : CN own cc nL d X0 n0 cM sM) {v : Int32} {N n i : Nat} (hv : ¬ v < 0) (hN : v.toNatClampNeg = N) (hb : N * 4 ≤ 536870912) (hl : Jvm.Cond.classLink own i "WoundTape$Stand" ∈ w_ws) (hn : n0 + S.length = n) (h1000 : n < 1000) (hc : c + 1 ≤ cM) (hs : sl + N ≤ sM) (hF : Fr t n) (hls : wBel n ls) (hst : wBel n stk) (hd : decode cc pc = .ok (.anewarray i, 3)) (kk : GN nL X0 (S ++ [(3, N)]) (c + 1) (sl + N) (pc + 3) ls (.ref n :: stk) t) : GN nL X0 S c sl pc ls (.int v :: stk) t := by
  intro al hal H locs lsA hR hL
  have hX := hC.cx (S := S) (c := c) (sl := sl) hal (by omega) (by omega)
  obtain ⟨h1, h2, h3, h4, h5, h6, h7, h8⟩ := hC
  subst h4
  refine va_newq (C := "WoundTape$Stand") hX.x hX.b hX.ow (hX.ts _ hl) h2.1 hX.K hR.1 hR.2.1 hR.2.2 hX.hA hv hN hb (by show xcl X0 + c + 1 ≤ _; rw [h7]; show 0 + c + 1 ≤ (xR X0).cells; rw [h5]; omega) (by show xsl X0 + sl + N ≤ _; rw [h8]; show 0 + sl + N ≤ (xR X0).slots; rw [h6]; omega) hd (fun q cA H1 hK1 hP1 hD1 hS1 => ?_)
  have e1 : cA = gI (xG X0) 2 := by
    obtain ⟨-, -, -, -, -, a1⟩ := (hK1.2 3 (cA, .object "WoundTape$Stand") rfl).2
    obtain ⟨-, -, -, -, -, a2⟩ := (hK1.2 2 (gI (xG X0) 2, .object "WoundTape$Stand") rfl).2
    exact Option.some.inj (a1.symm.trans a2)
  subst e1
  have h := gn_next (nL := nL) (c := c) (sl := sl) (ls := ls) (stk := stk) (lsA := lsA) (e := (3, N)) (sl' := N) hn hal h1000 hF hls hst (e1 := .inl (gI (xG X0) 2, N, .inr (.inr (.inr (.inr fun _ => none))))) (fun al' => by
    have hg := gsh_last (G := xG X0) (al := al') (S := S) (e := (3, N))
    rw [hn] at hg
    unfold w_cell
    rw [hg, ← fr_null hF al']
    rfl) hP1 hD1 hS1 hL kk
  have h : W (xp X0) (xl X0) (xe X0) (xR X0) (xs X0) (xm X0) (xa X0) (xb X0) (xme X0) (xc X0) H1 locs (xcl X0 + (c + 1)) (xsl X0 + (sl + N)) (xQ X0) (F0 (xm X0) (pc + 3) lsA (.ref q :: stk.map (cv al))) := h
  rw [← Nat.add_assoc (xsl X0)] at h
  exact h
/-- the outer row of new int[N][K] -/
def wRow (t : wS) (n N : Nat) : wS := (t.1, fun c => if c = n then (fun j => if j < N then n + 1 + j else 5000) else t.2 c)
theorem w_world_congr {G : wG} {t u : wS} (h : ∀ c, c < (gl G).length → u.1 c = t.1 c ∧ u.2 c = t.2 c) : w_world G u = w_world G t := by
  unfold w_world
  apply List.map_congr_left
  intro c hc
  have hc := List.mem_range.mp hc
  rw [w_cell_eq (h c hc).1 (h c hc).2]
theorem wRow_at (n N c k : Nat) : (wRow t n N).2 c k = if c = n then (if k < N then n + 1 + k else 5000) else t.2 c k := by
  unfold wRow
  by_cases h : c = n
  · simp only [h, if_true]
  · simp only [h, if_false]
theorem Fr.row {n N : Nat} (h : Fr t n) : Fr (wRow t n N) (n + 1 + N) := by
  refine ⟨fun c k hc => ?_, fun c k hc => ⟨(h.2 c k (by omega)).1, ?_⟩⟩
  · rw [wRow_at]
    by_cases h1 : c = n
    · rw [if_pos h1]
      by_cases h2 : k < N
      · rw [if_pos h2]
        exact Or.inl (by omega)
      · rw [if_neg h2]
        exact Or.inr rfl
    · rw [if_neg h1]
      by_cases h2 : c < n
      · rcases h.1 c k h2 with h3 | h3
        · exact Or.inl (by omega)
        · exact Or.inr h3
      · exact Or.inr (h.2 c k (by omega)).2
  · rw [wRow_at, if_neg (by omega)]
    exact (h.2 c k (by omega)).2
theorem gn_mna (hC : CN own cc nL d X0 n0 cM sM) {v u : Int32} {N K n i : Nat} (hv : ¬ v < 0) (hu : ¬ u < 0) (hN : v.toNatClampNeg = N) (hK : u.toNatClampNeg = K) (hb1 : N * 4 ≤ 536870912) (hb2 : K * 4 ≤ 536870912) (hl : Jvm.Cond.classLink own i "[[I" ∈ w_ws) (hn : n0 + S.length = n) (h1000 : n + N < 1000) (hc : c + 1 + N ≤ cM) (hs : sl + N + N * K ≤ sM) (hF : Fr t n) (hls : wBel n ls) (hst : wBel n stk) (hd : decode cc pc = .ok (.multianewarray i 2, 4)) (kk : GN nL X0 (S ++ ((2, N) :: List.replicate N (1, K))) (c + 1 + N) (sl + N + N * K) (pc + 4) ls (.ref n :: stk) (wRow t n N)) : GN nL X0 S c sl pc ls (.int u :: .int v :: stk) t := by
  intro al hal H locs lsA hR hL
  have hX := hC.cx (S := S) (c := c) (sl := sl) hal (by omega) (by omega)
  obtain ⟨h1, h2, h3, h4, h5, h6, h7, h8⟩ := hC
  subst h4
  subst hn
  have hcy : (xs X0).vm.findClass (FieldType.array .int).toString = some (gI (xG X0) 0) := (hX.K.2 0 (gI (xG X0) 0, .int) rfl).2
  have hP0 : va_P (gD (xG X0)) vwCl (w_world (gX (xG X0) al S) t ++ va_pl [] (fun _ => .inr (0, []))) H := by
    show va_P _ _ (w_world _ _ ++ []) H
    rw [List.append_nil]
    exact hR.1
  have hD0 : va_D (xA X0) (w_world (gX (xG X0) al S) t ++ va_pl [] (fun _ => .inr (0, []))) := by
    show va_D _ (w_world _ _ ++ [])
    rw [List.append_nil]
    exact hR.2.1
  refine va_mna (ty := .int) (z := (K, .inl fun _ => 0)) hX.x hX.b hX.ow (hX.ts _ hl) h2.2.1 (hX.ts _ wd_181) hcy hX.K hP0 hD0 hR.2.2 hX.hA hv hu hN hK hb1 hb2 (by omega) rfl rfl (by show xcl X0 + c + (1 + N) ≤ _; rw [h7]; show 0 + c + (1 + N) ≤ (xR X0).cells; rw [h5]; omega) (by show xsl X0 + sl + (N + N * K) ≤ _; rw [h8]; show 0 + sl + (N + N * K) ≤ (xR X0).slots; rw [h6]; omega) (fun cI => by
    show ({ cls := cI, slots := Array.replicate K (defaultValue .int), vm := .none } : Cell) = arrV cI K (fun _ => .int 0)
    exact arrV_new ..) hd (fun q r cA H1 hinj hnl hK1 hP1 hD1 hS1 => ?_)
  have e1 : cA = gI (xG X0) 1 := by
    have a1 : (xs X0).vm.findClass _ = some cA := (hK1.2 3 (cA, .array .int) rfl).2
    have a2 : (xs X0).vm.findClass _ = some (gI (xG X0) 1) := (hK1.2 1 (gI (xG X0) 1, .array .int) rfl).2
    exact Option.some.inj (a1.symm.trans a2)
  subst e1
  generalize hm : (gl (xG X0)).length + S.length = m at *
  let be : Nat → Nat := fun k => if k = m then q else if m < k ∧ k < m + 1 + N then r (k - m - 1) else al k
  have hbe1 : ∀ k, k < m ∨ 1000 ≤ k → be k = al k := fun k hk => by
    show (if k = m then q else if m < k ∧ k < m + 1 + N then r (k - m - 1) else al k) = _
    rw [if_neg (by omega), if_neg (by omega)]
  have hbe2 : ∀ k, k < (gl (xG X0)).length ∨ 1000 ≤ k → be k = ga (xG X0) k := fun k hk => by
    show (if k = m then q else if m < k ∧ k < m + 1 + N then r (k - m - 1) else al k) = _
    rw [if_neg (by omega), if_neg (by omega)]
    exact hal k hk
  have hbem : be m = q := if_pos rfl
  have hber : ∀ j, j < N → be (m + 1 + j) = r j := fun j hj => by
    show (if m + 1 + j = m then q else if m < m + 1 + j ∧ m + 1 + j < m + 1 + N then r (m + 1 + j - m - 1) else al _) = _
    rw [if_neg (by omega), if_pos (by omega), show m + 1 + j - m - 1 = j by omega]
  have hlen : (gl (gX (xG X0) al S)).length = m := by rw [gl_gX]; exact hm
  have hrow : ∀ c, c < m → (wRow t m N).1 c = t.1 c ∧ (wRow t m N).2 c = t.2 c := fun c hc => ⟨rfl, if_neg (by omega)⟩
  have hw : w_world (gX (xG X0) be (S ++ ((2, N) :: List.replicate N (1, K)))) (wRow t m N) = (w_world (gX (xG X0) al S) t ++ [(q, .inl (gI (xG X0) 1, N, .inr (.inr (.inr (.inr (fun i => if i < N then some (r i) else none))))))]) ++ va_pl ([] ++ (List.range N).map r) (vr_up (fun _ => .inr (0, [])) ((List.range N).map r) (.inl (gI (xG X0) 0, K, .inl fun _ => 0))) := by
    have h := w_world_ext (G := gX (xG X0) al S) (t := wRow t m N) (al := be) (S := (2, N) :: List.replicate N (1, K)) (fun k hk => by rw [hlen] at hk; exact hbe1 k (Or.inl hk)) (fun c k hc => by
      rw [hlen] at hc ⊢
      rw [(hrow c hc).2]
      exact hF.1 c k hc)
    rw [gX_gX] at h
    rw [h, w_world_congr (t := t) (fun c hc => hrow c (by rw [← hlen]; exact hc)), List.append_assoc]
    congr 1
    have hsh : ∀ j, j < N + 1 → gsh (gX (xG X0) be (S ++ ((2, N) :: List.replicate N (1, K)))) (m + j) = ((2, N) :: List.replicate N (1, K)).getD j (9, 0) := fun j hj => by
      rw [← gX_gX _ al, ← hlen, gsh_new]
    rw [hlen, List.length_cons, List.length_replicate, List.range_succ_eq_map, List.map_cons, List.map_map]
    show _ :: _ = _ :: _
    congr 1
    · have e0 : w_cell (gX (xG X0) be (S ++ ((2, N) :: List.replicate N (1, K)))) (wRow t m N) m = .inl (gI (xG X0) 1, N, .inr (.inr (.inr (.inr (fun i => if i < N then some (r i) else none))))) := by
        have h0 := hsh 0 (by omega)
        rw [Nat.add_zero] at h0
        unfold w_cell
        rw [h0]
        show Sum.inl (gI (xG X0) 1, N, Sum.inr (Sum.inr (Sum.inr (Sum.inr (fun j => w_rf be ((wRow t m N).2 m j)))))) = _
        have e : (fun j => w_rf be ((wRow t m N).2 m j)) = fun i => if i < N then some (r i) else none := by
          funext j
          rw [wRow_at, if_pos rfl]
          by_cases hj : j < N
          · rw [if_pos hj, if_pos hj]
            unfold w_rf
            rw [if_neg (by omega), hber j hj]
          · rw [if_neg hj, if_neg hj]
            rfl
        rw [e]
      show (be m, w_cell _ _ m) = _
      rw [hbem, e0]
    · rw [List.nil_append]
      unfold va_pl
      rw [List.map_map]
      apply List.map_congr_left
      intro j hj
      have hj := List.mem_range.mp hj
      show (be (m + (j + 1)), w_cell (gX (xG X0) be (S ++ ((2, N) :: List.replicate N (1, K)))) (wRow t m N) (m + (j + 1))) = (r j, vr_up _ _ _ (r j))
      rw [vr_up_in (List.mem_map.mpr ⟨j, List.mem_range.mpr hj, rfl⟩), show m + (j + 1) = m + 1 + j by omega, hber j hj]
      have h0 := hsh (j + 1) (by omega)
      rw [show m + (j + 1) = m + 1 + j by omega, List.getD_cons_succ, List.getD_eq_getElem?_getD, List.getElem?_replicate, if_pos hj] at h0
      have e0 : w_cell (gX (xG X0) be (S ++ ((2, N) :: List.replicate N (1, K)))) (wRow t m N) (m + 1 + j) = .inl (gI (xG X0) 0, K, .inl fun _ => 0) := by
        unfold w_cell
        rw [h0]
        show Sum.inl (gI (xG X0) 0, K, Sum.inl (t.1 (m + 1 + j))) = _
        rw [show t.1 (m + 1 + j) = fun _ => 0 from funext fun k => (hF.2 _ k (by omega)).1]
      rw [e0]
  have h := kk be hbe2 H1 locs lsA ⟨by
    show va_P _ _ (w_world (gX (xG X0) be (S ++ ((2, N) :: List.replicate N (1, K)))) (wRow t m N)) H1
    rw [hw]; exact hP1, by
    show va_D _ (w_world (gX (xG X0) be (S ++ ((2, N) :: List.replicate N (1, K)))) (wRow t m N))
    rw [hw]; exact hD1, hS1⟩ (ls_ext hbe1 hls hL)
  have hs2 : (Value.ref m :: stk).map (cv be) = .ref q :: stk.map (cv al) := by
    rw [List.map_cons, cv_ext hbe1 hst]
    show Value.ref (be m) :: _ = _
    rw [hbem]
  have h : W (xp X0) (xl X0) (xe X0) (xR X0) (xs X0) (xm X0) (xa X0) (xb X0) (xme X0) (xc X0) H1 locs (xcl X0 + (c + 1 + N)) (xsl X0 + (sl + N + N * K)) (xQ X0) (F0 (xm X0) (pc + 4) lsA ((Value.ref m :: stk).map (cv be))) := h
  rw [hs2, show xcl X0 + (c + 1 + N) = xcl X0 + c + 1 + N by omega, show xsl X0 + (sl + N + N * K) = xsl X0 + sl + N + N * K by omega] at h
  exact h
end CTOR
