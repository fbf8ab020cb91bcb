/-! THE ABSTRACT WORLD: cells by number; ints and references of each cell as functions; addresses are variables -/
/-- what is fixed: the kit's class numbers, the three array classes, the addresses (of String constant k at 1000 + k, of its bytes at 2000 + k), the shape of the cells -/
abbrev wG : Type := va_G × (Nat → ClassId) × (Nat → Nat) × List (Nat × Nat)
abbrev gD (G : wG) : va_G := G.1
abbrev gI (G : wG) : Nat → ClassId := G.2.1
abbrev ga (G : wG) : Nat → Nat := G.2.2.1
abbrev gl (G : wG) : List (Nat × Nat) := G.2.2.2
abbrev gV (G : wG) : Nat → Nat := fun k => ga G (2000 + k)
def gsh (G : wG) : Nat → Nat × Nat := fun c => (gl G).getD c (9, 0)
def wtys (G : wG) : List (ClassId × FieldType) := [(gI G 0, .int), (gI G 1, .array .int), (gI G 2, .object "WoundTape$Stand")]
/-- a value of the abstract world as the machine has it -/
def cv (al : Nat → Nat) (v : Value) : Value := match v with
  | .ref c => .ref (al c)
  | v => v
/-- 5000 is null -/
def w_rf (al : Nat → Nat) (r : Nat) : Option Nat := if r = 5000 then none else some (al r)
def w_fv (al : Nat → Nat) (t : wS) (c ci k : Nat) : Value := if wkd ci k = 2 then va_rf (w_rf al (t.2 c k)) else .int (t.1 c k)
def w_cell (G : wG) (t : wS) (c : Nat) : va_E := match gsh G c with
  | (0, ci) => .inr (ci, (List.range (wnf ci)).map (w_fv (ga G) t c ci))
  | (1, n) => .inl (gI G 0, n, .inl (t.1 c))
  | (2, n) => .inl (gI G 1, n, .inr (.inr (.inr (.inr (fun j => w_rf (ga G) (t.2 c j))))))
  | (_, n) => .inl (gI G 2, n, .inr (.inr (.inr (.inr (fun j => w_rf (ga G) (t.2 c j))))))
def w_world (G : wG) (t : wS) : va_W := (List.range (gl G).length).map (fun c => (ga G c, w_cell G t c))
theorem gsh_lt {G : wG} {c a b : Nat} (h : gsh G c = (a, b)) (ha : a ≠ 9) : c < (gl G).length := by
  refine Nat.lt_of_not_le fun hle => ha ?_
  unfold gsh at h
  rw [List.getD_eq_getElem?_getD, List.getElem?_eq_none hle] at h
  exact (congrArg Prod.fst h).symm
theorem w_at {G : wG} (t : wS) {c : Nat} (h : c < (gl G).length) : (w_world G t)[c]? = some (ga G c, w_cell G t c) := by
  unfold w_world
  rw [List.getElem?_map, List.getElem?_range h]
  rfl
theorem w_at_obj {G : wG} (t : wS) {c ci : Nat} (h : gsh G c = (0, ci)) : (w_world G t)[c]? = some (ga G c, .inr (ci, (List.range (wnf ci)).map (w_fv (ga G) t c ci))) := by
  rw [w_at t (gsh_lt h (by decide))]
  unfold w_cell
  rw [h]
  rfl
theorem w_at_arr {G : wG} (t : wS) {c n : Nat} (h : gsh G c = (1, n)) : (w_world G t)[c]? = some (ga G c, .inl (gI G 0, n, .inl (t.1 c))) := by
  rw [w_at t (gsh_lt h (by decide))]
  unfold w_cell
  rw [h]
  rfl
theorem w_at_arr2 {G : wG} (t : wS) {c n : Nat} (h : gsh G c = (2, n)) : (w_world G t)[c]? = some (ga G c, .inl (gI G 1, n, .inr (.inr (.inr (.inr (fun j => w_rf (ga G) (t.2 c j))))))) := by
  rw [w_at t (gsh_lt h (by decide))]
  unfold w_cell
  rw [h]
  rfl
theorem w_at_arr3 {G : wG} (t : wS) {c n : Nat} (h : gsh G c = (3, n)) : (w_world G t)[c]? = some (ga G c, .inl (gI G 2, n, .inr (.inr (.inr (.inr (fun j => w_rf (ga G) (t.2 c j))))))) := by
  rw [w_at t (gsh_lt h (by decide))]
  unfold w_cell
  rw [h]
  rfl
theorem w_world_len (G : wG) (t : wS) : (w_world G t).length = (gl G).length := by simp [w_world]
theorem w_cell_eq {G : wG} {t u : wS} {c : Nat} (h1 : u.1 c = t.1 c) (h2 : u.2 c = t.2 c) : w_cell G u c = w_cell G t c := by
  unfold w_cell w_fv
  rw [h1, h2]
theorem w_set {G : wG} {t u : wS} {c : Nat} {e : va_E} (hc : c < (gl G).length) (he : w_cell G u c = e) (h1 : ∀ k, k ≠ c → u.1 k = t.1 k) (h2 : ∀ k, k ≠ c → u.2 k = t.2 k) : (w_world G t).set c (ga G c, e) = w_world G u := by
  apply List.ext_getElem?
  intro k
  by_cases hk : k = c
  · subst hk
    rw [List.getElem?_set_self (by rw [w_world_len]; exact hc), w_at u hc, he]
  · rw [List.getElem?_set_ne (Ne.symm hk)]
    by_cases hl : k < (gl G).length
    · rw [w_at t hl, w_at u hl, w_cell_eq (h1 k hk) (h2 k hk)]
    · rw [List.getElem?_eq_none (by rw [w_world_len]; omega), List.getElem?_eq_none (by rw [w_world_len]; omega)]
/-- the same addresses: apart in any state of the cells -/
theorem w_D {G : wG} {A : Nat → Prop} {t : wS} (u : wS) (h : va_D A (w_world G t)) : va_D A (w_world G u) := by
  have key : ∀ (k : Nat) (q : Nat × va_E), (w_world G u)[k]? = some q → ∃ q0, (w_world G t)[k]? = some q0 ∧ q0.1 = q.1 := by
    intro k q hk
    have hl : k < (gl G).length := by
      have := (List.getElem?_eq_some_iff.mp hk).1
      rw [w_world_len] at this
      exact this
    rw [w_at u hl] at hk
    cases hk
    exact ⟨_, w_at t hl, rfl⟩
  refine ⟨fun i j x y hi hj hxy => ?_, fun k q hk => ?_⟩
  · obtain ⟨x0, h1, h2⟩ := key i x hi
    obtain ⟨y0, h3, h4⟩ := key j y hj
    exact h.1 i j x0 y0 h1 h3 (h2.trans (hxy.trans h4.symm))
  · obtain ⟨q0, h1, h2⟩ := key k q hk
    rw [← h2]
    exact h.2 k q0 h1
theorem w_A {G : wG} {t : wS} (u : wS) {sz : Nat} {q : Nat} (h : va_A (w_world G t) sz q) : va_A (w_world G u) sz q := by
  rcases h with ⟨k, e, h⟩ | h
  · have hl : k < (gl G).length := by
      have := (List.getElem?_eq_some_iff.mp h).1
      rw [w_world_len] at this
      exact this
    rw [w_at t hl] at h
    have hq : ga G k = q := congrArg Prod.fst (Option.some.inj h)
    exact Or.inl ⟨k, w_cell G u k, by rw [w_at u hl, hq]⟩
  · exact Or.inr h
theorem w_fv_set {al : Nat → Nat} {t : wS} {c ci k : Nat} {v : Int32} (hk : k < wnf ci) (hkd : wkd ci k ≠ 2) : (List.range (wnf ci)).map (w_fv al (wUI t c k v) c ci) = ((List.range (wnf ci)).map (w_fv al t c ci)).set k (.int v) := by
  apply List.ext_getElem?
  intro j
  by_cases hj : j = k
  · subst hj
    rw [List.getElem?_set_self (by simpa using hk), List.getElem?_map, List.getElem?_range hk]
    show some (w_fv al (wUI t c j v) c ci j) = _
    unfold w_fv wUI
    rw [if_neg hkd]
    simp [upd]
  · rw [List.getElem?_set_ne (Ne.symm hj)]
    by_cases hl : j < wnf ci
    · rw [List.getElem?_map, List.getElem?_map, List.getElem?_range hl]
      show some (w_fv al (wUI t c k v) c ci j) = some (w_fv al t c ci j)
      unfold w_fv wUI
      simp [upd, hj]
    · rw [List.getElem?_eq_none (by simp; omega), List.getElem?_eq_none (by simp; omega)]
theorem w_setF {G : wG} {t : wS} {c ci k : Nat} {v : Int32} (h : gsh G c = (0, ci)) (hk : k < wnf ci) (hkd : wkd ci k ≠ 2) : (w_world G t).set c (ga G c, .inr (ci, ((List.range (wnf ci)).map (w_fv (ga G) t c ci)).set k (.int v))) = w_world G (wUI t c k v) := by
  refine w_set (gsh_lt h (by decide)) ?_ (fun j hj => by unfold wUI; exact if_neg hj) (fun _ _ => rfl)
  unfold w_cell
  rw [h]
  exact congrArg (fun z => (Sum.inr (ci, z) : va_E)) (w_fv_set hk hkd)
theorem w_setA {G : wG} {t : wS} {c n i : Nat} {v : Int32} (h : gsh G c = (1, n)) : (w_world G t).set c (ga G c, .inl (gI G 0, n, .inl (upd (t.1 c) i v))) = w_world G (wUI t c i v) := by
  refine w_set (gsh_lt h (by decide)) ?_ (fun j hj => by unfold wUI; exact if_neg hj) (fun _ _ => rfl)
  unfold w_cell
  rw [h]
  show _ = Sum.inl (gI G 0, n, Sum.inl (upd (t.1 c) i v))
  simp [wUI]
theorem w_setC {G : wG} {t : wS} {c n : Nat} {f : Nat → Int32} (h : gsh G c = (1, n)) : (w_world G t).set c (ga G c, .inl (gI G 0, n, .inl f)) = w_world G (wUC t c f) := by
  refine w_set (gsh_lt h (by decide)) ?_ (fun j hj => by unfold wUC; exact if_neg hj) (fun _ _ => rfl)
  unfold w_cell
  rw [h]
  show _ = Sum.inl (gI G 0, n, Sum.inl f)
  simp [wUC]
theorem w_setR {G : wG} {t : wS} {c n i r : Nat} (h : gsh G c = (3, n)) (hr : ¬ r = 5000) : (w_world G t).set c (ga G c, .inl (gI G 2, n, .inr (.inr (.inr (.inr (va_up (fun j => w_rf (ga G) (t.2 c j)) i (some (ga G r)))))))) = w_world G (wUR t c i r) := by
  refine w_set (gsh_lt h (by decide)) ?_ (fun _ _ => rfl) (fun j hj => by unfold wUR; exact if_neg hj)
  unfold w_cell
  rw [h]
  show Sum.inl (gI G 2, n, Sum.inr (Sum.inr (Sum.inr (Sum.inr (fun j => w_rf (ga G) ((wUR t c i r).2 c j)))))) = _
  have e : (fun j => w_rf (ga G) ((wUR t c i r).2 c j)) = va_up (fun j => w_rf (ga G) (t.2 c j)) i (some (ga G r)) := by
    funext j
    unfold wUR va_up
    by_cases hj : j = i <;> simp [hj, w_rf, hr]
  rw [e]
/-! locals: junk where nothing is held -/
def wkn (al : Nat → Nat) (ls : wL) (k : Nat) : Option Value := match ls[k]? with
  | some (.int x) => some (.int x)
  | some (.ref c) => some (.ref (al c))
  | some (.long x) => if ls[k + 1]? = some wjk then some (.long x) else none
  | _ => none
def wlst (al : Nat → Nat) (ls : wL) : List (Nat × Value) := (List.range ls.length).filterMap (fun k => (wkn al ls k).map (fun v => (k, v)))
theorem wlst_mem {al : Nat → Nat} {ls : wL} {q : Nat × Value} : q ∈ wlst al ls ↔ wkn al ls q.1 = some q.2 := by
  unfold wlst
  rw [List.mem_filterMap]
  constructor
  · rintro ⟨k, -, h⟩
    cases hk : wkn al ls k with
    | none => rw [hk] at h; cases h
    | some v =>
      rw [hk] at h
      cases h
      exact hk
  · intro h
    refine ⟨q.1, List.mem_range.mpr (Nat.lt_of_not_le fun hle => ?_), by rw [h]; rfl⟩
    unfold wkn at h
    rw [List.getElem?_eq_none hle] at h
    cases h
def LsOK (al : Nat → Nat) (nL : Nat) (ls : wL) (lsA : Array Slot) : Prop := ls.length = nL ∧ lv_has lsA nL (wlst al ls)
theorem lv_mono {lsA : Array Slot} {nL : Nat} {a b : List (Nat × Value)} (h : lv_has lsA nL a) (hs : ∀ q ∈ b, q ∈ a) : lv_has lsA nL b := ⟨h.1, h.2.1, fun q hq => h.2.2 q (hs q hq)⟩
theorem LsOK.int {al : Nat → Nat} {nL : Nat} {ls : wL} {lsA : Array Slot} (h : LsOK al nL ls lsA) {k : Nat} {x : Int32} (hk : ls[k]? = some (.int x)) : lsA[k]? = some (.val (.int x)) :=
  h.2.2.2 (k, .int x) (wlst_mem.mpr (by unfold wkn; rw [hk]))
theorem LsOK.ref {al : Nat → Nat} {nL : Nat} {ls : wL} {lsA : Array Slot} (h : LsOK al nL ls lsA) {k c : Nat} (hk : ls[k]? = some (.ref c)) : lsA[k]? = some (.val (.ref (al c))) :=
  h.2.2.2 (k, .ref (al c)) (wlst_mem.mpr (by unfold wkn; rw [hk]))
theorem LsOK.long {al : Nat → Nat} {nL : Nat} {ls : wL} {lsA : Array Slot} (h : LsOK al nL ls lsA) {k : Nat} {x : Int64} (hk : ls[k]? = some (.long x)) (hj : ls[k + 1]? = some wjk) : lsA[k]? = some (.val (.long x)) :=
  h.2.2.2 (k, .long x) (wlst_mem.mpr (by unfold wkn; rw [hk]; exact if_pos hj))
theorem LsOK.lt {al : Nat → Nat} {nL : Nat} {ls : wL} {lsA : Array Slot} (h : LsOK al nL ls lsA) {k : Nat} {v : Value} (hk : ls[k]? = some v) : k < nL := by
  have := (List.getElem?_eq_some_iff.mp hk).1
  rw [h.1] at this
  exact this
/-- what is known behind a store of one slot -/
theorem wlst_set1 {al : Nat → Nat} {ls : wL} {i : Nat} {v w : Value} (hi : i < ls.length) (hv : ∀ x, v ≠ .long x) (hj : v ≠ wjk) (hw : ∀ ks : wL, ks[i]? = some v → wkn al ks i = some w) :
    ∀ q ∈ wlst al (ls.set i v), q ∈ (i, w) :: (wlst al ls).filter (fun q => !(q.1 == i) && !(q.1 + 1 == i && q.2.category == 2)) := by
  intro q hq
  have hq1 := wlst_mem.mp hq
  by_cases hqi : q.1 = i
  · rw [hqi, hw _ (by rw [List.getElem?_set_self hi])] at hq1
    cases hq1
    rw [← hqi]
    exact List.mem_cons_self
  · refine List.mem_cons_of_mem _ (List.mem_filter.mpr ?_)
    unfold wkn at hq1
    rw [List.getElem?_set_ne (Ne.symm hqi)] at hq1
    by_cases hq2 : q.1 + 1 = i
    · rw [hq2, List.getElem?_set_self hi] at hq1
      have hne : ¬ some v = some wjk := fun e => hj (Option.some.inj e)
      simp only [if_neg hne] at hq1
      have hmem : wkn al ls q.1 = some q.2 ∧ ¬ q.2.category = 2 := by
        unfold wkn
        revert hq1
        cases hl : ls[q.1]? with
        | none => intro h; cases h
        | some z => cases z <;> intro h <;> first | (cases h; done) | (refine ⟨h, ?_⟩; rw [← Option.some.inj h]; simp [Value.category])
      refine ⟨wlst_mem.mpr hmem.1, ?_⟩
      simp [hqi, hmem.2]
    · rw [List.getElem?_set_ne (Ne.symm hq2)] at hq1
      exact ⟨wlst_mem.mpr hq1, by simp [hqi, hq2]⟩
theorem wkn_int {al : Nat → Nat} {i : Nat} {x : Int32} : ∀ ks : wL, ks[i]? = some (.int x) → wkn al ks i = some (.int x) := fun ks h => by unfold wkn; rw [h]
theorem wkn_ref {al : Nat → Nat} {i c : Nat} : ∀ ks : wL, ks[i]? = some (.ref c) → wkn al ks i = some (.ref (al c)) := fun ks h => by unfold wkn; rw [h]
theorem LsOK.set1 {al : Nat → Nat} {nL : Nat} {ls : wL} {i : Nat} {v w : Value} {lsA lsB : Array Slot} (h : LsOK al nL ls lsA) (hi : i < nL) (hv : ∀ x, v ≠ .long x) (hj : v ≠ wjk) (hw : ∀ ks : wL, ks[i]? = some v → wkn al ks i = some w)
    (hB : lv_has lsB nL ((i, w) :: (wlst al ls).filter (fun q => !(q.1 == i) && !(q.1 + 1 == i && q.2.category == 2)))) : LsOK al nL (ls.set i v) lsB :=
  ⟨by rw [List.length_set]; exact h.1, lv_mono hB (wlst_set1 (by rw [h.1]; exact hi) hv hj hw)⟩
/-- what is known behind a store of a long: junk in its second half -/
theorem wlst_set2 {al : Nat → Nat} {ls : wL} {i : Nat} {x : Int64} (hi : i + 1 < ls.length) :
    ∀ q ∈ wlst al ((ls.set i (.long x)).set (i + 1) wjk), q ∈ (i, Value.long x) :: (wlst al ls).filter (fun q => !(q.1 == i) && (!(q.1 == i + 1) && !(q.1 + 1 == i && q.2.category == 2))) := by
  intro q hq
  have hq1 := wlst_mem.mp hq
  by_cases hqi : q.1 = i
  · unfold wkn at hq1
    rw [hqi, List.getElem?_set_ne (by omega), List.getElem?_set_self (by omega), List.getElem?_set_self (by rw [List.length_set]; exact hi)] at hq1
    simp only [if_true] at hq1
    have e : q = (i, Value.long x) := by
      obtain ⟨a, b⟩ := q
      simp only at hqi hq1
      rw [hqi]
      cases hq1
      rfl
    rw [e]
    exact List.mem_cons_self
  · by_cases hqj : q.1 = i + 1
    · unfold wkn at hq1
      rw [hqj, List.getElem?_set_self (by rw [List.length_set]; exact hi)] at hq1
      cases hq1
    · refine List.mem_cons_of_mem _ (List.mem_filter.mpr ?_)
      unfold wkn at hq1
      rw [List.getElem?_set_ne (fun e => hqj e.symm), List.getElem?_set_ne (Ne.symm hqi)] at hq1
      by_cases hq2 : q.1 + 1 = i
      · rw [hq2, List.getElem?_set_ne (by omega), List.getElem?_set_self (by omega)] at hq1
        have hne : ¬ some (Value.long x) = some wjk := fun e => by cases e
        simp only [if_neg hne] at hq1
        have hmem : wkn al ls q.1 = some q.2 ∧ ¬ q.2.category = 2 := by
          unfold wkn
          revert hq1
          cases hl : ls[q.1]? with
          | none => intro h; cases h
          | some z => cases z <;> intro h <;> first | (cases h; done) | (refine ⟨h, ?_⟩; rw [← Option.some.inj h]; simp [Value.category])
        refine ⟨wlst_mem.mpr hmem.1, ?_⟩
        simp [hqi, hqj, hmem.2]
      · rw [List.getElem?_set_ne (by omega), List.getElem?_set_ne (fun e => hq2 e.symm)] at hq1
        exact ⟨wlst_mem.mpr hq1, by simp [hqi, hqj, hq2]⟩
