/-! THE LAW: where it starts: its classes, the String constants, two statics -/
def lw_tm (i : Nat) : Term := match wStr[i]? with
  | some q => Term.string q.1 q.2.1
  | none => Term.result
theorem wStr_at : ∀ q ∈ wStr, wStr[q.2.2.2]? = some q ∧ q.2.2.2 < 23 := by decide +kernel
theorem lw_tm_at {q : String × Nat × String × Nat} (hq : q ∈ wStr) : lw_tm q.2.2.2 = Term.string q.1 q.2.1 := by
  unfold lw_tm
  rw [(wStr_at q hq).1]
theorem wStr_tbl : ∀ q ∈ wStr, Cond.stringRef q.1 q.2.1 q.2.2.1 ∈ lw_tbl := by decide +kernel
def lw_flat : List Cond := flatC (Jvm.Cond.and given_1 narrow_1)
def wOff : List Nat := [9, 23, 129, 139, 151, 162, 175, 189, 202, 217, 233, 252, 271, 291, 310, 332, 353, 377, 402, 429, 456, 484, 514]
theorem lwf_at {k : Nat} {c : Cond} (h : lw_flat[k]? = some c) : c ∈ lw_flat := List.mem_of_getElem? h
theorem lwf_ex : ∀ i, i < 23 → lw_flat[wOff.getD i 0]? = some (Cond.exactly (lw_tm i) "java/lang/String") := by decide +kernel
theorem lwf_co : ∀ i, i < 23 → lw_flat[wOff.getD i 0 + 1]? = some (Cond.eq (.field (lw_tm i) "java/lang/String" "coder" "B") (.int 0)) := by decide +kernel
theorem lwf_ar : ∀ i, i < 23 → lw_flat[wOff.getD i 0 + 2]? = some (Cond.arrayOf (.field (lw_tm i) "java/lang/String" "value" "[B") .byte) := by decide +kernel
theorem lwf_le : ∀ i, i < 23 → lw_flat[wOff.getD i 0 + 3]? = some (Cond.eq (.length (.field (lw_tm i) "java/lang/String" "value" "[B")) (.int (Int32.ofNat (wLen.getD i 0)))) := by decide +kernel
theorem lwf_el : ∀ i, i < 23 → ∀ j, j < wLen.getD i 0 → lw_flat[wOff.getD i 0 + 4 + j]? = some (Cond.eq (.elem (.field (lw_tm i) "java/lang/String" "value" "[B") (.int (Int32.ofNat j))) (.int ((wByt.getD i []).getD j 0))) := by decide +kernel
theorem lwf_ne : ∀ i, i < 23 → ∀ j, j < i → lw_flat[wOff.getD i 0 + 4 + wLen.getD i 0 + j]? = some (Cond.not (Cond.eq (lw_tm j) (lw_tm i))) := by decide +kernel
theorem wNest_tbl : ∀ q ∈ wNest, Cond.methodLinkNest q.1 q.2.1 q.2.2.1 q.2.2.2 ∈ lw_tbl := by decide +kernel
theorem lwt_cs : Cond.laysStatic "java/lang/String" "COMPACT_STRINGS" "Z" ∈ lw_tbl ∧ Cond.initialized "java/lang/String" ∈ lw_tbl := by decide +kernel
theorem lwt_pf : Cond.laysStatic "jdk/internal/util/Preconditions" "SIOOBE_FORMATTER" "Ljava/util/function/BiFunction;" ∈ lw_tbl ∧ Cond.initialized "jdk/internal/util/Preconditions" ∈ lw_tbl := by decide +kernel
theorem lwt_ao : Cond.arrayOver (.object "WoundTape$Stand") ∈ lw_tbl ∧ Cond.arrayOver (.array .int) ∈ lw_tbl ∧ Cond.arrayClass .int ∈ lw_tbl := by decide +kernel
theorem lwf_st : Cond.eq (.static "java/lang/String" "COMPACT_STRINGS" "Z") (.int 1) ∈ lw_flat ∧ Cond.isRef (.static "jdk/internal/util/Preconditions" "SIOOBE_FORMATTER" "Ljava/util/function/BiFunction;") ∈ lw_flat := by decide +kernel
theorem lwf_len : ∀ i, i < 23 → wLen.getD i 0 < 2 ^ 31 := by decide +kernel
section LWORLD
variable {b : Nat} {s : State}
/-- String constants -/
theorem lw_strs (hts : ∀ w ∈ lw_tbl, w.before #[Value.ref b] s = true) (hgv : (Jvm.Cond.and given_1 narrow_1).before #[Value.ref b] s = true) : ∃ adK adV : Nat → Nat, vk_S 23 wLen wByt adK adV (fun q => s.heap.size ≤ q) s s.heap ∧ ∀ q ∈ wStr, vk_R q.1 q.2.1 q.2.2.1 (adK q.2.2.2) s := by
  have hs : ∀ w ∈ lw_flat, w.before #[Value.ref b] s = true := flat_of_before _ hgv
  obtain ⟨adK, adV, h1, h2⟩ := vk_Sof (args := #[Value.ref b]) (s := s) (N := 23) (tm := lw_tm) (len := wLen) (byt := wByt) (A := fun q => s.heap.size ≤ q) lwf_len (fun i hi => hs _ (lwf_at (lwf_ex i hi))) (fun i hi => hs _ (lwf_at (lwf_co i hi))) (fun i hi => hs _ (lwf_at (lwf_ar i hi))) (fun i hi => hs _ (lwf_at (lwf_le i hi))) (fun i hi j hj => hs _ (lwf_at (lwf_el i hi j hj))) (fun i j hi hj hij => by
    by_cases c : i < j
    · exact Or.inl (hs _ (lwf_at (lwf_ne j hj i c)))
    · exact Or.inr (hs _ (lwf_at (lwf_ne i hi j (by omega))))) (fun a ha => by omega)
  refine ⟨adK, adV, h1, fun q hq => vk_R.of (hts _ (wStr_tbl q hq)) ?_⟩
  have h3 := h2 q.2.2.2 (wStr_at q hq).2
  rw [lw_tm_at hq] at h3
  exact h3
/-- classes -/
theorem lw_cls (hts : ∀ w ∈ lw_tbl, w.before #[Value.ref b] s = true) : ∃ D : va_G, ∀ (k : Nat) (q : vw_C), vwCl[k]? = some q → u_Kn s q.1 q.2.1 q.2.2 (D.1 k) (D.2 k) := by
  have ht : ∀ w ∈ w_ws, w.before #[Value.ref b] s = true := fun w hw => hts w (w_ws_lw w hw)
  obtain ⟨c0, f0, k0⟩ := u_known (C := RX0) (T := TX0) (N := 2) (n := 2) ht inw0 (ht _ wd_306)
  obtain ⟨c1, f1, k1⟩ := u_known (C := RX1) (T := TX1) (N := 1) (n := 1) ht inw1 (ht _ wd_320)
  obtain ⟨c2, f2, k2⟩ := u_known (C := RX2) (T := TX2) (N := 11) (n := 11) ht inw2 (ht _ wd_183)
  obtain ⟨c3, f3, k3⟩ := u_known (C := RX3) (T := TX3) (N := 5) (n := 5) ht inw3 (ht _ wd_277)
  obtain ⟨c4, f4, k4⟩ := u_known (C := RX4) (T := TX4) (N := 8) (n := 8) ht inw4 (ht _ wd_245)
  obtain ⟨c5, f5, k5⟩ := u_known (C := RX5) (T := TX5) (N := 5) (n := 5) ht inw5 (ht _ wd_519)
  obtain ⟨c6, f6, k6⟩ := u_known (C := RX6) (T := TX6) (N := 9) (n := 9) ht inw6 (ht _ wd_447)
  obtain ⟨c7, f7, k7⟩ := u_known (C := RX7) (T := TX7) (N := 8) (n := 8) ht inw7 (ht _ wd_189)
  obtain ⟨c8, f8, k8⟩ := u_known (C := RX8) (T := TX8) (N := 8) (n := 8) ht inw8 (ht _ wd_330)
  obtain ⟨c9, f9, k9⟩ := u_known (C := RX9) (T := TX9) (N := 9) (n := 9) ht inw9 (ht _ wd_482)
  obtain ⟨c10, f10, k10⟩ := u_known (C := RX10) (T := TX10) (N := 9) (n := 9) ht inw10 (ht _ wd_145)
  obtain ⟨c11, f11, k11⟩ := u_known (C := RX11) (T := TX11) (N := 13) (n := 13) ht inw11 (ht _ wd_137)
  obtain ⟨c12, f12, k12⟩ := u_known (C := RX12) (T := TX12) (N := 43) (n := 43) ht inw12 (ht _ wd_1343)
  refine ⟨(fun k => [c0, c1, c2, c3, c4, c5, c6, c7, c8, c9, c10, c11, c12].getD k 0, fun k => [f0, f1, f2, f3, f4, f5, f6, f7, f8, f9, f10, f11, f12].getD k (fun _ => 0)), fun k q hq => ?_⟩
  match k, hq with
  | 0, hq => cases hq; exact k0
  | 1, hq => cases hq; exact k1
  | 2, hq => cases hq; exact k2
  | 3, hq => cases hq; exact k3
  | 4, hq => cases hq; exact k4
  | 5, hq => cases hq; exact k5
  | 6, hq => cases hq; exact k6
  | 7, hq => cases hq; exact k7
  | 8, hq => cases hq; exact k8
  | 9, hq => cases hq; exact k9
  | 10, hq => cases hq; exact k10
  | 11, hq => cases hq; exact k11
  | 12, hq => cases hq; exact k12
  | k + 13, hq => simp [vwCl] at hq
/-- classes of arrays -/
theorem lw_arrs (hts : ∀ w ∈ lw_tbl, w.before #[Value.ref b] s = true) : ∃ I : Nat → ClassId, ∀ (k : Nat) (q : ClassId × FieldType), ([(I 0, FieldType.int), (I 1, FieldType.array .int), (I 2, FieldType.object "WoundTape$Stand")])[k]? = some q → ArrOfT s q.1 q.2 ∧ va_RA s q.1 q.2 := by
  obtain ⟨h1, h2, h3⟩ := lwt_ao
  obtain ⟨a0, k0, p0, x1, x2, x3⟩ := Cond.arrayClass_spec (hts _ h3)
  obtain ⟨p1, a1, k1, y1, y2, y3, y4⟩ := Cond.arrayOver_specA (hts _ h2)
  obtain ⟨p2, a2, k2, z1, z2, z3, z4, z5⟩ := Cond.arrayOver_spec (hts _ h1)
  refine ⟨fun k => [a0, a1, a2].getD k 0, fun k q hq => ?_⟩
  match k, hq with
  | 0, hq => cases hq; exact ⟨fun N z => ⟨(fun q hq => by cases hq), k0, x2, p0, x3⟩, x1⟩
  | 1, hq => cases hq; exact ⟨fun N z => ⟨(fun q hq => by cases hq), k1, y2, p1, y3⟩, y4⟩
  | 2, hq => cases hq; exact ⟨fun N z => ⟨(fun q hq => by cases hq), k2, z3, p2, z4⟩, k2, p2, z3, z4, z1, z5⟩
  | k + 3, hq => simp at hq
theorem vk_S.congr {N : Nat} {len : List Nat} {byt : List (List Int32)} {aK aV bK bV : Nat → Nat} {A : Nat → Prop} {U : State} {H : Heap} (h : vk_S N len byt aK aV A U H) (h1 : ∀ i, i < N → bK i = aK i) (h2 : ∀ i, i < N → bV i = aV i) : vk_S N len byt bK bV A U H := by
  refine ⟨fun i hi => ?_, fun i j hi hj e => h.2 i j hi hj (by rw [← h1 i hi, ← h1 j hj]; exact e)⟩
  rw [h1 i hi, h2 i hi]
  exact h.1 i hi
/-- the whole start: a world without cells -/
theorem lw_world (hts : ∀ w ∈ lw_tbl, w.before #[Value.ref b] s = true) (hgv : (Jvm.Cond.and given_1 narrow_1).before #[Value.ref b] s = true) : ∃ G : wG, gl G = [] ∧ ga G 4000 = b ∧ va_K (gD G) vwCl (wtys G) s ∧ wFacts G (fun q => s.heap.size ≤ q) s s.heap ∧ wFN s := by
  have hs : ∀ w ∈ lw_flat, w.before #[Value.ref b] s = true := flat_of_before _ hgv
  obtain ⟨D, hD⟩ := lw_cls hts
  obtain ⟨I, hI⟩ := lw_arrs hts
  obtain ⟨aK, aV, h1, h2⟩ := lw_strs hts hgv
  have hA : ∀ a : Nat, a < s.heap.size → ¬ (fun q : Nat => s.heap.size ≤ q) a := fun a ha => Nat.not_le.mpr ha
  refine ⟨(D, I, fun k => if k = 4000 then b else if k < 2000 then aK (k - 1000) else aV (k - 2000), []), rfl, (by show (if (4000 : Nat) = 4000 then b else (if 4000 < 2000 then aK (4000 - 1000) else aV (4000 - 2000))) = b; exact if_pos rfl), ⟨hD, hI⟩, ⟨?_, fun q hq => ?_, ?_, ?_⟩, va_AO.of (hts _ lwt_ao.1), va_AOA.of (hts _ lwt_ao.2.1), fun q hq => va_Nw.of rfl (hts _ (wNest_tbl q hq))⟩
  · refine h1.congr (fun i hi => ?_) (fun i hi => ?_)
    · show (if 1000 + i = 4000 then b else if 1000 + i < 2000 then aK (1000 + i - 1000) else aV (1000 + i - 2000)) = _
      rw [if_neg (by omega), if_pos (by omega), Nat.add_sub_cancel_left]
    · show (if 2000 + i = 4000 then b else if 2000 + i < 2000 then aK (2000 + i - 1000) else aV (2000 + i - 2000)) = _
      rw [if_neg (by omega), if_neg (by omega), Nat.add_sub_cancel_left]
  · have h3 := h2 q hq
    have h4 := (wStr_at q hq).2
    show vk_R _ _ _ (if 1000 + q.2.2.2 = 4000 then b else if 1000 + q.2.2.2 < 2000 then aK (1000 + q.2.2.2 - 1000) else aV (1000 + q.2.2.2 - 2000)) s
    rw [if_neg (by omega), if_pos (by omega), Nat.add_sub_cancel_left]
    exact h3
  · exact va_Zof (hts _ lwt_cs.1) (hts _ lwt_cs.2) (va_eqi (hs _ lwf_st.1)) hA
  · exact va_Zqof (hts _ lwt_pf.1) (hts _ lwt_pf.2) (hs _ lwf_st.2) hA
end LWORLD
