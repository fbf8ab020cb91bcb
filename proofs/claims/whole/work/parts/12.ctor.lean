/-! CONSTRUCTORS: cells come one behind another; a new cell is zero and null -/
/-- the words that don't ride in lists -/
def wNest : List (String × Nat × MethodName × String) := [(RX11, 11, yX10_init, "WoundTape"), (RX11, 18, yX2_init, "WoundTape"), (RX2, 20, yX4_init, "WoundTape"), (RX2, 27, yX3_init, "WoundTape"), (RX2, 34, yX0_init, "WoundTape"), (RX2, 41, yX1_init, "WoundTape"), (RX11, 35, yX4_init, "WoundTape"), (RX11, 42, yX3_init, "WoundTape"), (RX11, 49, yX0_init, "WoundTape"), (RX11, 56, yX6_init, "WoundTape"), (RX11, 63, yX9_init, "WoundTape"), (RX11, 70, yX5_init, "WoundTape")]
def wFN (U : State) : Prop := va_AO "WoundTape$Stand" U ∧ va_AOA .int U ∧ ∀ q ∈ wNest, va_Nw (.methodLinkNest q.1 q.2.1 q.2.2.1 q.2.2.2) U
theorem va_AOA.moved {ty : FieldType} {u U : State} (hvm : u.vm.Alike U.vm) (h : va_AOA ty u) : va_AOA ty U := by
  unfold va_AOA Cond.before Cond.holds at h
  simp only [Cond.value, beq_iff_eq] at h
  cases hc : u.vm.findClass (FieldType.array ty).toString with
  | none => simp [hc] at h
  | some comp =>
    simp only [hc, Option.bind_some, Option.bind_eq_some_iff, Option.map_eq_some_iff] at h
    obtain ⟨c, hi, k, hk, hb⟩ := h
    obtain ⟨k', hk', he⟩ := hvm.2.2 _ _ hk
    have hb0 : U.vm.bare = u.vm.bare := by first | exact hvm.bare_eq.symm | exact hvm.bare_eq
    have hi2 : (U.vm.classes.findIdx? fun (x : Class) => match x.kind with | .array component _ => component == comp | _ => false) = some c :=
      (va_idx_bare U.vm comp).symm.trans (by rw [hb0]; exact (va_idx_bare u.vm comp).trans hi)
    have f1 : U.vm.findClass (FieldType.array ty).toString = some comp := by rw [hvm.findClass]; exact hc
    have hkind : ∃ c2, k.kind = .array c2 (.array ty) ∧ u.vm.findClass ("[" ++ (FieldType.array ty).toString) = some c := by
      cases hkk : k.kind with
      | array c2 t2 =>
        rw [hkk] at hb
        simp only [Bool.and_eq_true, decide_eq_true_eq] at hb
        exact ⟨c2, by rw [hb.1], hb.2⟩
      | _ => rw [hkk] at hb; simp at hb
    obtain ⟨c2, hk2, hf2⟩ := hkind
    have hk3 : k'.kind = .array c2 (.array ty) := by rw [he]; exact hk2
    have f2 : U.vm.findClass ("[" ++ (FieldType.array ty).toString) = some c := by rw [hvm.findClass]; exact hf2
    unfold va_AOA Cond.before Cond.holds
    simp only [Cond.value]
    rw [f1, Option.bind_some]
    refine (congrArg (fun o : Option Nat => (o.bind (fun c => (U.vm.classes[c]?).map fun (k : Class) => match k.kind with | .array _ t => decide (t = FieldType.array ty) && decide (U.vm.findClass ("[" ++ (FieldType.array ty).toString) = some c) | _ => false)) == some true) hi2).trans ?_
    simp [hk', hk3, f2]
theorem wFN.warm {s U : State} (hW : s.WarmedH U.vm) (h : wFN s) : wFN U := ⟨h.1.moved hW.alike, h.2.1.moved hW.alike, fun q hq => (h.2.2 q hq).warmM hW⟩
theorem wFN.same {u U : State} (hv : U.vm = u.vm) (h : wFN u) : wFN U := ⟨h.1.moved (by rw [hv]; exact Vm.Alike.refl _), h.2.1.moved (by rw [hv]; exact Vm.Alike.refl _), fun q hq => va_tabs rfl hv.symm (h.2.2 q hq)⟩
/-- n cells are there: what they refer to is there, what comes later is zero and null -/
def Fr (t : wS) (n : Nat) : Prop := (∀ c k : Nat, c < n → t.2 c k < n ∨ t.2 c k = 5000) ∧ ∀ c k : Nat, n ≤ c → t.1 c k = 0 ∧ t.2 c k = 5000
theorem Fr.up {t : wS} {n : Nat} (h : Fr t n) : Fr t (n + 1) := ⟨fun c k hc => by
    by_cases h1 : c < n
    · rcases h.1 c k h1 with h2 | h2
      · exact Or.inl (by omega)
      · exact Or.inr h2
    · exact Or.inr (h.2 c k (by omega)).2, fun c k hc => h.2 c k (by omega)⟩
theorem Fr.put {t : wS} {n c k r : Nat} (h : Fr t n) (hc : c < n) (hr : r < n) : Fr (wUR t c k r) n := by
  refine ⟨fun a b ha => ?_, fun a b ha => ⟨(h.2 a b ha).1, ?_⟩⟩
  · unfold wUR va_up
    by_cases h1 : a = c
    · by_cases h2 : b = k
      · simp [h1, h2, hr]
      · simp only [h1, if_true, h2, if_false]
        exact h.1 c b hc
    · simp only [h1, if_false]
      exact h.1 a b ha
  · have hac : ¬ a = c := by omega
    show (if a = c then va_up (t.2 c) k r else t.2 a) b = 5000
    rw [if_neg hac]
    exact (h.2 a b ha).2
theorem Fr.int {t u : wS} {n : Nat} (h : Fr t n) (h2 : u.2 = t.2) (h1 : ∀ c, n ≤ c → u.1 c = t.1 c) : Fr u n := ⟨fun c k hc => by rw [h2]; exact h.1 c k hc, fun c k hc => by rw [h2, h1 c hc]; exact h.2 c k hc⟩
/-- the world with further addresses and cells -/
def gX (G : wG) (al : Nat → Nat) (S : List (Nat × Nat)) : wG := (gD G, gI G, al, gl G ++ S)
def xX (X : wX) (al : Nat → Nat) (S : List (Nat × Nat)) (c s : Nat) : wX := (X.1, X.2.1, X.2.2.1, gX (xG X) al S, X.2.2.2.2.1, X.2.2.2.2.2.1, (xcl X + c, xsl X + s))
theorem gsh_old {G : wG} {al : Nat → Nat} {S : List (Nat × Nat)} {c : Nat} (h : c < (gl G).length) : gsh (gX G al S) c = gsh G c := by
  show (gl G ++ S).getD c (9, 0) = (gl G).getD c (9, 0)
  rw [List.getD_eq_getElem?_getD, List.getD_eq_getElem?_getD, List.getElem?_append_left h]
theorem gsh_new {G : wG} {al : Nat → Nat} {S : List (Nat × Nat)} {j : Nat} : gsh (gX G al S) ((gl G).length + j) = S.getD j (9, 0) := by
  show (gl G ++ S).getD ((gl G).length + j) (9, 0) = _
  rw [List.getD_eq_getElem?_getD, List.getD_eq_getElem?_getD, List.getElem?_append_right (by omega), Nat.add_sub_cancel_left]
/-- cells that are there are as they were -/
theorem w_world_ext {G : wG} {t : wS} {al : Nat → Nat} {S : List (Nat × Nat)} (hal : ∀ k, k < (gl G).length → al k = ga G k) (hF : ∀ c k : Nat, c < (gl G).length → t.2 c k < (gl G).length ∨ t.2 c k = 5000) : w_world (gX G al S) t = w_world G t ++ (List.range S.length).map (fun j => (al ((gl G).length + j), w_cell (gX G al S) t ((gl G).length + j))) := by
  apply List.ext_getElem?
  intro k
  by_cases hk : k < (gl G).length
  · rw [List.getElem?_append_left (by rw [w_world_len]; exact hk), w_at t hk, w_at t (by show k < (gl G ++ S).length; rw [List.length_append]; omega)]
    have e : w_cell (gX G al S) t k = w_cell G t k := by
      have hr : ∀ j, w_rf al (t.2 k j) = w_rf (ga G) (t.2 k j) := fun j => by
        unfold w_rf
        by_cases h5 : t.2 k j = 5000
        · rw [if_pos h5, if_pos h5]
        · rw [if_neg h5, if_neg h5, hal _ ((hF k j hk).resolve_right h5)]
      have hfv : ∀ ci, w_fv al t k ci = w_fv (ga G) t k ci := fun ci => by
        funext j
        unfold w_fv
        rw [hr j]
      unfold w_cell
      rw [gsh_old hk]
      show (match gsh G k with
        | (0, ci) => Sum.inr (ci, (List.range (wnf ci)).map (w_fv al t k ci))
        | (1, n) => Sum.inl (gI G 0, n, Sum.inl (t.1 k))
        | (2, n) => Sum.inl (gI G 1, n, Sum.inr (Sum.inr (Sum.inr (Sum.inr (fun j => w_rf al (t.2 k j))))))
        | (_, n) => Sum.inl (gI G 2, n, Sum.inr (Sum.inr (Sum.inr (Sum.inr (fun j => w_rf al (t.2 k j))))))) = _
      simp only [hr, hfv]
      rfl
    rw [e]
    show some (al k, _) = some (ga G k, _)
    rw [hal k hk]
  · rw [List.getElem?_append_right (by rw [w_world_len]; omega), w_world_len]
    by_cases hk2 : k < (gl G).length + S.length
    · rw [w_at t (by show k < (gl G ++ S).length; rw [List.length_append]; omega), List.getElem?_map, List.getElem?_range (by omega)]
      show some (al k, w_cell (gX G al S) t k) = some (al ((gl G).length + (k - (gl G).length)), w_cell (gX G al S) t ((gl G).length + (k - (gl G).length)))
      rw [show (gl G).length + (k - (gl G).length) = k by omega]
    · rw [List.getElem?_eq_none (by rw [w_world_len]; show (gl G ++ S).length ≤ k; rw [List.length_append]; omega), List.getElem?_eq_none (by rw [List.length_map, List.length_range]; omega)]
/-- values that don't name cells to come -/
def wBel (n : Nat) (vs : List Value) : Prop := ∀ c : Nat, Value.ref c ∈ vs → c < n ∨ 1000 ≤ c
theorem cv_ext {al be : Nat → Nat} {n : Nat} {vs : List Value} (hal : ∀ k, k < n ∨ 1000 ≤ k → al k = be k) (hb : wBel n vs) : vs.map (cv al) = vs.map (cv be) := by
  apply List.map_congr_left
  intro v hv
  cases v with
  | ref c => show Value.ref (al c) = Value.ref (be c); rw [hal c (hb c hv)]
  | _ => rfl
theorem ls_ext {al be : Nat → Nat} {n nL : Nat} {ls : wL} {lsA : Array Slot} (hal : ∀ k, k < n ∨ 1000 ≤ k → al k = be k) (hb : wBel n ls) (h : LsOK be nL ls lsA) : LsOK al nL ls lsA := by
  refine ⟨h.1, lv_mono h.2 fun q hq => ?_⟩
  have h1 := wlst_mem.mp hq
  refine wlst_mem.mpr ?_
  unfold wkn at h1 ⊢
  split at h1
  · exact h1
  · rename_i c hx
    rw [hal c (hb c (List.mem_of_getElem? hx))] at h1
    exact h1
  · exact h1
  · cases h1
/-- CX of a constructor: its end is told apart -/
theorem CX.ext {own : String} {cc : ByteArray} {nL d : Nat} {X : wX} {al : Nat → Nat} {S : List (Nat × Nat)} {c s : Nat} (h : CX own cc nL none d X) (hal : ∀ k, k < (gl (xG X)).length ∨ 1000 ≤ k → al k = ga (xG X) k) (hf : (xfin X).1 = some .null) (hr : xcl X + c ≤ (xR X).cells ∧ xsl X + s ≤ (xR X).slots) : CX own cc nL none d (xX X al S c s) := by
  have e1 : (fun k => al (1000 + k)) = fun k => ga (xG X) (1000 + k) := funext fun k => hal _ (Or.inr (by omega))
  have e2 : (fun k => al (2000 + k)) = fun k => ga (xG X) (2000 + k) := funext fun k => hal _ (Or.inr (by omega))
  refine ⟨h.x, h.b, h.ml, h.ow, h.ts, h.K, h.room, hr, ?_, h.hA, h.H0, ?_⟩
  · obtain ⟨f1, f2, f3, f4⟩ := h.facts
    refine ⟨?_, fun q hq => ?_, f3, f4⟩
    · show vk_S 23 wLen wByt (fun k => al (1000 + k)) (fun k => al (2000 + k)) _ _ _
      rw [e1, e2]
      exact f1
    · show vk_R _ _ _ (al (1000 + q.2.2.2)) _
      rw [hal _ (Or.inr (by omega))]
      exact f2 q hq
  · intro H locs lsA pc _
    have hf2 : (xfin (xX X al S c s)).1 = some .null := hf
    refine ⟨fun h => ?_, fun v ty h => ?_, fun v h => ?_⟩ <;> (rw [hf2] at h; cases h)
