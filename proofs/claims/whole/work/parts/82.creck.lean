/-! THE CLASS: codes run -/
def joinM (c : Nat) (a b : Int32) : Int32 := if c = 43 then oAdd a b else if c = 45 then oSub a b else if c = 42 then oMul a b else if c = 47 then (if wcmp .eq b (J 0) = true then J 0 else oDiv a b) else if c = 60 then (if a < b then J 1 else J 0) else if c = 61 then (if a = b then J 1 else J 0) else if c = 62 then (if b < a then J 1 else J 0) else if c = 38 then oAnd a b else oOr a b
def stepC (F : Nat → Int32) (c : Nat) (st : List Int32) : List Int32 := if c < 10000 then J c :: st else if c < 20000 then F (c - 9999) :: st else if c = 20033 then oSub (J 1) (st.headD 0) :: st.drop 1 else joinM (c - 20000) ((st.drop 1).headD 0) (st.headD 0) :: st.drop 2
def evC (F : Nat → Int32) : List Nat → List Int32 → List Int32
  | [], st => st
  | c :: r, st => evC F r (stepC F c st)
def sgnM (c : Nat) : Prop := c = 43 ∨ c = 45 ∨ c = 42 ∨ c = 47 ∨ c = 60 ∨ c = 61 ∨ c = 62 ∨ c = 38 ∨ c = 124
/-- the stack is deep enough at each code, and never too deep -/
def okD : List Nat → Nat → Prop
  | [], _ => True
  | c :: r, d => (c < 10000 ∧ d < 62 ∧ okD r (d + 1)) ∨ ((10000 ≤ c ∧ c < 10007) ∧ d < 62 ∧ okD r (d + 1)) ∨ (c = 20033 ∧ 1 ≤ d ∧ okD r d) ∨ (∃ q, c = 20000 + q ∧ sgnM q ∧ 2 ≤ d ∧ okD r (d - 1))
set_option maxRecDepth 100000 in
set_option maxHeartbeats 1500000 in
theorem evC_app (F : Nat → Int32) : ∀ (l r : List Nat) (st : List Int32), evC F (l ++ r) st = evC F r (evC F l st)
  | [], _, _ => rfl
  | c :: l, r, st => evC_app F l r (stepC F c st)
set_option maxRecDepth 100000 in
set_option maxHeartbeats 1500000 in
theorem tyst_len {s v : Nat} {T T' : List Bool} (h : tystM s v T = some T') : (s < 23 ∧ s ≤ 7 ∧ v ≤ 9999 ∧ T.length < 60 ∧ T'.length = T.length + 1) ∨ (s = 26 ∧ 1 ≤ T.length ∧ 1 ≤ v ∧ v ≤ 9999 ∧ T.length < 60 ∧ T'.length = T.length) ∨ (s = 30 ∧ 1 ≤ T.length ∧ T'.length = T.length) ∨ ((s = 23 ∨ s = 24 ∨ s = 25 ∨ s = 27 ∨ s = 28 ∨ s = 29 ∨ s = 31 ∨ s = 32) ∧ 2 ≤ T.length ∧ T'.length = T.length - 1) := by
  unfold tystM at h
  by_cases h1 : s < 23
  · rw [if_pos h1] at h
    by_cases h2 : s ≤ 7 ∧ v ≤ 9999 ∧ T.length < 60
    · rw [if_pos h2] at h
      cases h
      exact Or.inl ⟨h1, h2.1, h2.2.1, h2.2.2, rfl⟩
    · rw [if_neg h2] at h; cases h
  · rw [if_neg h1] at h
    refine Or.inr ?_
    by_cases h2 : s = 26
    · rw [if_pos h2] at h
      cases T with
      | nil => cases h
      | cons b T =>
        dsimp only at h
        by_cases h3 : 1 ≤ v ∧ v ≤ 9999 ∧ T.length < 59
        · rw [if_pos h3] at h
          cases h
          exact Or.inl ⟨h2, by simp, h3.1, h3.2.1, by simp; omega, by simp⟩
        · rw [if_neg h3] at h; cases h
    · rw [if_neg h2] at h
      refine Or.inr ?_
      by_cases h3 : s = 30
      · rw [if_pos h3] at h
        cases T with
        | nil => cases h
        | cons b T =>
          cases b with
          | false => cases h
          | true =>
            cases h
            exact Or.inl ⟨h3, by simp, rfl⟩
      · rw [if_neg h3] at h
        refine Or.inr ?_
        by_cases h4 : s = 31 ∨ s = 32
        · rw [if_pos h4] at h
          cases T with
          | nil => cases h
          | cons b T =>
            cases T with
            | nil => cases b <;> cases h
            | cons b2 T =>
              cases b with
              | false => cases h
              | true =>
                cases b2 with
                | false => cases h
                | true =>
                  cases h
                  exact ⟨by omega, by simp, by simp⟩
        · rw [if_neg h4] at h
          cases T with
          | nil => cases h
          | cons b T =>
            cases T with
            | nil => cases h
            | cons b2 T =>
              dsimp only at h
              by_cases h5 : s = 23 ∨ s = 24 ∨ s = 25
              · rw [if_pos h5] at h
                cases h
                exact ⟨by omega, by simp, by simp⟩
              · rw [if_neg h5] at h
                by_cases h6 : s = 27 ∨ s = 28 ∨ s = 29
                · rw [if_pos h6] at h
                  cases h
                  exact ⟨by omega, by simp, by simp⟩
                · rw [if_neg h6] at h; cases h
set_option maxRecDepth 100000 in
set_option maxHeartbeats 1500000 in
/-- a step and its codes do the same -/
theorem code_step {F : Nat → Int32} {s v : Nat} {T T' : List Bool} (h : tystM s v T = some T') (st : List Int32) : evC F (codeM (s, v)) st = stepM F s v st := by
  rcases tyst_len h with ⟨h1, h2, h3, h4, h5⟩ | ⟨rfl, h2, h3, h4, h5, h6⟩ | ⟨rfl, h2, h3⟩ | ⟨h1, h2, h3⟩
  · by_cases h0 : s = 0
    · subst h0
      show evC F [v] st = _
      unfold evC evC stepC stepM
      rw [if_pos (by omega), if_pos (by omega), if_pos rfl]
    · have : codeM (s, v) = [9999 + s] := by unfold codeM; rw [if_neg h0, if_pos (by omega)]
      rw [this]
      unfold evC evC stepC stepM
      rw [if_neg (by omega), if_pos (by omega), if_pos (by omega), if_neg h0, Nat.add_sub_cancel_left]
  · show evC F [v, 20047] st = _
    have hv : wcmp .eq (J v) (J 0) = false := by
      rw [wx_eq]
      exact decide_eq_false (fun q => by rw [J_inj (by omega) (by omega) (by omega) (by omega)] at q; omega)
    have e1 : stepC F v st = J v :: st := if_pos (by omega)
    show stepC F 20047 (stepC F v st) = _
    rw [e1]
    show joinM 47 (st.headD 0) (J v) :: st.drop 1 = _
    unfold stepM joinM
    rw [if_neg (by omega), if_neg (by omega), if_neg (by omega), if_pos rfl, hv, if_neg (by simp), if_neg (by omega), if_pos rfl]
  · rfl
  · have : codeM (s, v) = [20000 + sgM s] := by unfold codeM; rw [if_neg (by omega), if_neg (by omega), if_neg (by omega)]
    rw [this]
    show stepC F (20000 + sgM s) st = _
    rcases h1 with rfl | rfl | rfl | rfl | rfl | rfl | rfl | rfl <;> rfl
set_option maxRecDepth 100000 in
set_option maxHeartbeats 1500000 in
theorem code_run {F : Nat → Int32} : ∀ (l : List (Nat × Nat)) (T T' : List Bool) (st : List Int32), tyM l T = some T' → evC F (codesM l) st = evM F l st
  | [], _, _, _, _ => rfl
  | q :: r, T, T', st, h => by
    rw [tyM_cons] at h
    cases h1 : tystM q.1 q.2 T with
    | none => rw [h1] at h; cases h
    | some T1 =>
      rw [h1] at h
      show evC F (codeM q ++ codesM r) st = _
      rw [evC_app, evM_cons, show codeM q = codeM (q.1, q.2) from rfl, code_step h1, code_run r T1 T' _ h]
set_option maxRecDepth 100000 in
set_option maxHeartbeats 1500000 in
theorem code_ok : ∀ (l : List (Nat × Nat)) (T T' : List Bool), tyM l T = some T' → T.length ≤ 60 → okD (codesM l) T.length
  | [], _, _, _, _ => trivial
  | q :: r, T, T', h, h60 => by
    rw [tyM_cons] at h
    cases h1 : tystM q.1 q.2 T with
    | none => rw [h1] at h; cases h
    | some T1 =>
      rw [h1] at h
      show okD (codeM q ++ codesM r) T.length
      rcases tyst_len h1 with ⟨k1, k2, k3, k4, k5⟩ | ⟨k1, k2, k3, k4, k5, k6⟩ | ⟨k1, k2, k3⟩ | ⟨k1, k2, k3⟩
      · have ih := code_ok r T1 T' h (by omega)
        rw [k5] at ih
        by_cases h0 : q.1 = 0
        · have : codeM q = [q.2] := by unfold codeM; rw [if_pos h0]
          rw [this]
          exact Or.inl ⟨by omega, by omega, ih⟩
        · have : codeM q = [9999 + q.1] := by unfold codeM; rw [if_neg h0, if_pos (by omega)]
          rw [this]
          exact Or.inr (Or.inl ⟨by omega, by omega, ih⟩)
      · have ih := code_ok r T1 T' h (by omega)
        rw [k6] at ih
        have : codeM q = [q.2, 20047] := by unfold codeM; rw [if_neg (by omega), if_neg (by omega), if_pos k1]
        rw [this]
        exact Or.inl ⟨by omega, by omega, Or.inr (Or.inr (Or.inr ⟨47, rfl, by unfold sgnM; omega, by omega, ih⟩))⟩
      · have ih := code_ok r T1 T' h (by omega)
        rw [k3] at ih
        have : codeM q = [20033] := by unfold codeM; rw [if_neg (by omega), if_neg (by omega), if_neg (by omega), k1]; rfl
        rw [this]
        exact Or.inr (Or.inr (Or.inl ⟨rfl, by omega, ih⟩))
      · have ih := code_ok r T1 T' h (by omega)
        rw [k3] at ih
        have : codeM q = [20000 + sgM q.1] := by unfold codeM; rw [if_neg (by omega), if_neg (by omega), if_neg (by omega)]
        rw [this]
        exact Or.inr (Or.inr (Or.inr ⟨sgM q.1, rfl, by unfold sgnM; rcases k1 with k1 | k1 | k1 | k1 | k1 | k1 | k1 | k1 <;> rw [k1] <;> simp [sgM], by omega, ih⟩))
section C2
variable (K : Nat) (e : Nat → Nat) {m : wMm} (Q : Option Value → wS → Prop)
set_option maxRecDepth 100000 in
set_option maxHeartbeats 1500000 in
theorem c_joined (t : wS) {c : Nat} (a b : Int32) (hs : sgnM c) : PM (nX4_joined K SH) [.int (J c), .int a, .int b] t Q = Q (some (.int (joinM c a b))) t := by
  unfold sgnM at hs
  rcases hs with rfl | rfl | rfl | rfl | rfl | rfl | rfl | rfl | rfl <;> simp (config := {decide := true}) only [nX4_joined, bX4_joined, wr_1, wr_2, wr_3, wr_4, wr_5, wr_6, wr_7, wr_8, wr_9, wr_10, wr_11, wr_12, wr_13, wr_14, wr_15, wr_16, wr_17, wr_18, wr_19, wr_20, wr_21, wr_22, wr_23, wr_24, wr_25, wr_26, wr_27, wr_28, wr_29, wr_30, wr_31, wr_32, wr_33, wr_34, wr_35, wr_36, wr_37, wr_38, wr_39, wr_40, wr_41, wr_42, wr_43, wr_44, wr_45, wr_46, wr_47, wr_48, wr_49, wr_50, wr_51, wr_52, wr_53, wr_54, wr_55, wr_56, wr_57, wr_58, wr_59, wr_60, wr_61, wr_62, wr_63, wr_64, wr_65, wr_66, wr_67, wr_68, wr_69, wr_70, wr_71, wr_72, wr_73, wr_74, wr_75, wr_76, wr_77, wr_78, wr_79, wr_80, wr_81, wr_82, wr_83, wr_84, wr_85, wr_86, wr_87, wr_88, wr_89, wr_90, wr_91, wr_92, wr_93, wr_94, wr_95, wr_96, wr_97, wr_98, wr_99, wr_100, wr_101, wr_102, wr_103, wr_104, wr_105, wr_106, wr_107, wr_108, wr_109, wr_110, wr_111, wr_112, wr_113, wr_114, wr_115, wr_116, wr_117, wr_118, wr_119, wr_120, wr_121, wr_den, wr_122, wr_123, wr_124, wr_125, wr_126, wr_127, wr_128, wr_129, wr_130, wr_131, wr_132, wr_133, wr_134, wr_135, wr_136, wr_137, wr_138, wr_139, wr_140, wr_141, wr_142, wr_143, wr_144, wr_145, wr_146, wr_147, wr_148, wr_149, wr_150, wr_151, wr_152, wr_153, wr_154, wr_155, wr_156, wr_157, wr_158, wr_159, wr_160, wr_161, wr_162, wr_163, wr_164, wr_165, wr_166, wr_167, wr_168, wr_169, wr_170, wr_171, wr_172, wr_173, wr_174, wr_175, wr_176, wr_177, wr_178, wr_179, wr_180, wr_181, wr_182, wr_183, wr_184, wr_185, wr_186, wr_187, wr_188, wr_189, wr_190, wr_191, wr_192, wr_193, wr_194, wr_195, wr_196, wr_197, wr_198, wr_199, wr_200, wr_201, wr_202, wr_203, wr_204, wr_205, wr_206, wsw_J, J_inj, wr_208, sh_0, sh_1, sh_2, sh_3, sh_4, sh_5, sh_6, sh_7, sh_8, sh_9, sh_10, sh_11, sh_12, sh_13, sh_14, sh_15, sh_16, sh_17, sh_18, sh_19, sh_20, sh_21, sh_22, sh_23, sh_24, sh_25, sh_26, sh_27, sh_28, sh_29, sh_30, sh_31, sh_32, sh_33, sh_34, sh_35, sh_36, sh_37, sh_38, sh_39, sh_40, sh_41, sh_42, sh_43, sh_44, sh_45, sh_46, sh_47, sh_48, sh_49, sh_50, sh_51, sh_52, sh_53, sh_54, sh_55, sh_56, sh_57, sh_58, sh_59, sh_60, sh_61, sh_62, sh_63, sh_64, sh_65, sh_66, sh_67, sh_68, sh_69, sh_70, sh_71, sh_72, sh_73, sh_74, sh_75, sh_76, sh_77, sh_78, sh_79, sh_80, sh_81, sh_82, sh_83, sh_84, sh_85, sh_86, sh_87, sh_88, sh_89, sh_90, sh_91, sh_92, sh_93, sh_94, sh_95, sh_96, sh_97, sh_98, sh_99, sh_100, sh_101, sh_102, sh_103, sh_104, sh_105, sh_106, sh_107, sh_108, sh_109, sh_110, sh_111, sh_112, sh_113, sh_114, sh_115, sh_116, sh_117, sh_118, sh_119, sh_120, sh_121, sh_122, sh_123, sh_124, sh_125, sh_126, sh_127, sh_128, sh_129, sh_130, sh_131, sh_132, sh_133, sh_134, sh_135, sh_136, sh_137, rf_0_0, rf_0_1, rf_0_2, rf_0_3, rf_0_4, rf_0_5, rf_0_6, rf_0_7, rf_0_8, rf_0_9, rf_0_10, rf_1_0, rf_1_2, rf_1_3, rf_1_4, rf_6_0, rf_6_1, rf_6_2, rf_6_3, rf_6_4, rf_6_5, rf_6_9, rf_6_10, rf_7_3, rf_7_4, rf_7_5, rf_7_6, rf_7_7, rf_12_0, rf_12_1, rf_15_1, rf_15_2, rf_15_3, rf_15_4, rf_15_5, rf_15_7, rf_22_1, rf_22_2, rf_22_3, rf_22_4, rf_27_1, rf_29_0, rf_31_7, rf_35_0, rf_35_1, rf_35_2, rf_35_3, rf_35_4, rf_35_5, rf_35_9, rf_35_10, rf_36_3, rf_36_4, rf_36_5, rf_36_6, rf_36_7, rf_41_0, rf_41_1, rf_44_1, rf_44_2, rf_44_3, rf_44_4, rf_44_5, rf_44_7, rf_51_1, rf_51_2, rf_51_3, rf_51_4, rf_56_1, rf_58_0, rf_60_7, rf_64_3, rf_64_4, rf_64_5, rf_64_6, rf_64_7, rf_69_0, rf_69_1, rf_72_1, rf_72_2, rf_72_3, rf_72_4, rf_72_5, rf_72_7, rf_79_1, rf_79_2, rf_79_3, rf_79_4, rf_84_1, rf_86_0, rf_86_1, rf_86_2, rf_86_3, rf_88_0, rf_88_1, rf_88_2, rf_92_0, rf_92_1, rf_92_2, rf_97_0, rf_97_1, rf_97_7, rf_97_8, rf_102_2, rf_102_3, rf_102_4, rf_107_7, rf_109_7, rf_111_7, rf_113_7, rf_115_7, rf_117_7, rf_119_0, rf_119_1, rf_119_2, rf_119_3, rf_119_6, rf_119_7, rf_119_8, rf_119_9, rf_119_10, rf_119_11, rf_119_12, rf_119_13, rf_119_14, rf_119_37, rf_119_38, rf_119_39, rf_119_40, rf_119_41, rf_e, kW2_0, kW_0, kW_1, kW_2, kW_3, kWc_ap, J_add, J_sub, J_mul, wc_eq, wc_ne, wc_lt, wc_ge, wc_gt, wc_le, b_true, b_not_true, J_in, J_nat, J_max, J_min, J_abs, J_div, J_rem, J_z, J_o, J_ltz, J_ite, wUI_mk, wUC_mk, wUR_mk, if_true, if_false, and_true, true_and, and_self, List.length_cons, List.length_nil, List.all_cons, List.all_nil, wIR, List.cons_append, List.nil_append, List.append_nil, Bool.and_self, Bool.and_true, Bool.true_and, Int32.reduceToInt, Nat.le_refl, Nat.sub_self, List.replicate_zero, List.reduceReplicate, not_false_eq_true, not_true_eq_false, reduceCtorEq, true_or, or_true, or_false, false_or, Int.toNat_natCast, Nat.reduceEqDiff, Nat.reduceAdd, Nat.reduceSub, Nat.reduceMul, Nat.reduceLeDiff, Nat.zero_add, Int.reduceToNat, Int.reduceAdd, Int.reduceSub, Int.reduceMul, Int.reduceNeg, Int.reduceLT, Int.reduceLE, Int.reduceEq, ↓reduceIte, decide_true, decide_false, Bool.not_true, Bool.not_false, Bool.false_eq_true, tn_add, tn_mul, tn_sub, wb_ne, wb_eq, jb01, jb00, jb11, ji_0, ji_1, em_r, nn_r, Nat.add_sub_cancel, Nat.add_one_sub_one, add_neg1, nc_sub1, mU_same, mU_skip, joinM, wx_lt, wx_gt, wx_eq] <;> first | rfl | (split <;> rfl) | (split <;> first | rfl | (rename_i h; exact propext ⟨fun x => x.2, fun x => ⟨h, x⟩⟩))
set_option maxRecDepth 100000 in
set_option maxHeartbeats 1500000 in
theorem c_reckon {F : Nat → Int32} {l : List Nat} {i z : Nat} (hc : codeI m 20 i l) (hz : m 15 6 = J z) (hiz : i + l.length ≤ z) (h400 : z ≤ 400) (hF : ∀ k, k < 7 → m 87 k = F (k + 1)) (hok : okD l 0) (h1 : (evC F l []).length = 1) (hK : 16777216 ≤ K) : PM (nX4_reckon K SH) [.ref 15, .int (J i), .int (J ((i + l.length : Nat) : Int)), .ref 87] (m, RF e) (fun r u => r = some (.int ((evC F l []).headD 0)) ∧ ∃ m', u = (m', RF e) ∧ ∀ c, c ≠ 21 → m' c = m c) := by
  simp (disch := omega) only [nX4_reckon, bX4_reckon, wr_1, wr_2, wr_3, wr_4, wr_5, wr_6, wr_7, wr_8, wr_9, wr_10, wr_11, wr_12, wr_13, wr_14, wr_15, wr_16, wr_17, wr_18, wr_19, wr_20, wr_21, wr_22, wr_23, wr_24, wr_25, wr_26, wr_27, wr_28, wr_29, wr_30, wr_31, wr_32, wr_33, wr_34, wr_35, wr_36, wr_37, wr_38, wr_39, wr_40, wr_41, wr_42, wr_43, wr_44, wr_45, wr_46, wr_47, wr_48, wr_49, wr_50, wr_51, wr_52, wr_53, wr_54, wr_55, wr_56, wr_57, wr_58, wr_59, wr_60, wr_61, wr_62, wr_63, wr_64, wr_65, wr_66, wr_67, wr_68, wr_69, wr_70, wr_71, wr_72, wr_73, wr_74, wr_75, wr_76, wr_77, wr_78, wr_79, wr_80, wr_81, wr_82, wr_83, wr_84, wr_85, wr_86, wr_87, wr_88, wr_89, wr_90, wr_91, wr_92, wr_93, wr_94, wr_95, wr_96, wr_97, wr_98, wr_99, wr_100, wr_101, wr_102, wr_103, wr_104, wr_105, wr_106, wr_107, wr_108, wr_109, wr_110, wr_111, wr_112, wr_113, wr_114, wr_115, wr_116, wr_117, wr_118, wr_119, wr_120, wr_121, wr_den, wr_122, wr_123, wr_124, wr_125, wr_126, wr_127, wr_128, wr_129, wr_130, wr_131, wr_132, wr_133, wr_134, wr_135, wr_136, wr_137, wr_138, wr_139, wr_140, wr_141, wr_142, wr_143, wr_144, wr_145, wr_146, wr_147, wr_148, wr_149, wr_150, wr_151, wr_152, wr_153, wr_154, wr_155, wr_156, wr_157, wr_158, wr_159, wr_160, wr_161, wr_162, wr_163, wr_164, wr_165, wr_166, wr_167, wr_168, wr_169, wr_170, wr_171, wr_172, wr_173, wr_174, wr_175, wr_176, wr_177, wr_178, wr_179, wr_180, wr_181, wr_182, wr_183, wr_184, wr_185, wr_186, wr_187, wr_188, wr_189, wr_190, wr_191, wr_192, wr_193, wr_194, wr_195, wr_196, wr_197, wr_198, wr_199, wr_200, wr_201, wr_202, wr_203, wr_204, wr_205, wr_206, wsw_J, J_inj, wr_208, sh_0, sh_1, sh_2, sh_3, sh_4, sh_5, sh_6, sh_7, sh_8, sh_9, sh_10, sh_11, sh_12, sh_13, sh_14, sh_15, sh_16, sh_17, sh_18, sh_19, sh_20, sh_21, sh_22, sh_23, sh_24, sh_25, sh_26, sh_27, sh_28, sh_29, sh_30, sh_31, sh_32, sh_33, sh_34, sh_35, sh_36, sh_37, sh_38, sh_39, sh_40, sh_41, sh_42, sh_43, sh_44, sh_45, sh_46, sh_47, sh_48, sh_49, sh_50, sh_51, sh_52, sh_53, sh_54, sh_55, sh_56, sh_57, sh_58, sh_59, sh_60, sh_61, sh_62, sh_63, sh_64, sh_65, sh_66, sh_67, sh_68, sh_69, sh_70, sh_71, sh_72, sh_73, sh_74, sh_75, sh_76, sh_77, sh_78, sh_79, sh_80, sh_81, sh_82, sh_83, sh_84, sh_85, sh_86, sh_87, sh_88, sh_89, sh_90, sh_91, sh_92, sh_93, sh_94, sh_95, sh_96, sh_97, sh_98, sh_99, sh_100, sh_101, sh_102, sh_103, sh_104, sh_105, sh_106, sh_107, sh_108, sh_109, sh_110, sh_111, sh_112, sh_113, sh_114, sh_115, sh_116, sh_117, sh_118, sh_119, sh_120, sh_121, sh_122, sh_123, sh_124, sh_125, sh_126, sh_127, sh_128, sh_129, sh_130, sh_131, sh_132, sh_133, sh_134, sh_135, sh_136, sh_137, rf_0_0, rf_0_1, rf_0_2, rf_0_3, rf_0_4, rf_0_5, rf_0_6, rf_0_7, rf_0_8, rf_0_9, rf_0_10, rf_1_0, rf_1_2, rf_1_3, rf_1_4, rf_6_0, rf_6_1, rf_6_2, rf_6_3, rf_6_4, rf_6_5, rf_6_9, rf_6_10, rf_7_3, rf_7_4, rf_7_5, rf_7_6, rf_7_7, rf_12_0, rf_12_1, rf_15_1, rf_15_2, rf_15_3, rf_15_4, rf_15_5, rf_15_7, rf_22_1, rf_22_2, rf_22_3, rf_22_4, rf_27_1, rf_29_0, rf_31_7, rf_35_0, rf_35_1, rf_35_2, rf_35_3, rf_35_4, rf_35_5, rf_35_9, rf_35_10, rf_36_3, rf_36_4, rf_36_5, rf_36_6, rf_36_7, rf_41_0, rf_41_1, rf_44_1, rf_44_2, rf_44_3, rf_44_4, rf_44_5, rf_44_7, rf_51_1, rf_51_2, rf_51_3, rf_51_4, rf_56_1, rf_58_0, rf_60_7, rf_64_3, rf_64_4, rf_64_5, rf_64_6, rf_64_7, rf_69_0, rf_69_1, rf_72_1, rf_72_2, rf_72_3, rf_72_4, rf_72_5, rf_72_7, rf_79_1, rf_79_2, rf_79_3, rf_79_4, rf_84_1, rf_86_0, rf_86_1, rf_86_2, rf_86_3, rf_88_0, rf_88_1, rf_88_2, rf_92_0, rf_92_1, rf_92_2, rf_97_0, rf_97_1, rf_97_7, rf_97_8, rf_102_2, rf_102_3, rf_102_4, rf_107_7, rf_109_7, rf_111_7, rf_113_7, rf_115_7, rf_117_7, rf_119_0, rf_119_1, rf_119_2, rf_119_3, rf_119_6, rf_119_7, rf_119_8, rf_119_9, rf_119_10, rf_119_11, rf_119_12, rf_119_13, rf_119_14, rf_119_37, rf_119_38, rf_119_39, rf_119_40, rf_119_41, rf_e, kW2_0, kW_0, kW_1, kW_2, kW_3, kWc_ap, J_add, J_sub, J_mul, wc_eq, wc_ne, wc_lt, wc_ge, wc_gt, wc_le, b_true, b_not_true, J_in, J_nat, J_max, J_min, J_abs, J_div, J_rem, J_z, J_o, J_ltz, J_ite, wUI_mk, wUC_mk, wUR_mk, if_true, if_false, and_true, true_and, and_self, List.length_cons, List.length_nil, List.all_cons, List.all_nil, wIR, List.cons_append, List.nil_append, List.append_nil, Bool.and_self, Bool.and_true, Bool.true_and, Int32.reduceToInt, Nat.le_refl, Nat.sub_self, List.replicate_zero, List.reduceReplicate, not_false_eq_true, not_true_eq_false, reduceCtorEq, true_or, or_true, or_false, false_or, Int.toNat_natCast, Nat.reduceEqDiff, Nat.reduceAdd, Nat.reduceSub, Nat.reduceMul, Nat.reduceLeDiff, Nat.zero_add, Int.reduceToNat, Int.reduceAdd, Int.reduceSub, Int.reduceMul, Int.reduceNeg, Int.reduceLT, Int.reduceLE, Int.reduceEq, ↓reduceIte, decide_true, decide_false, Bool.not_true, Bool.not_false, Bool.false_eq_true, tn_add, tn_mul, tn_sub, wb_ne, wb_eq, jb01, jb00, jb11, ji_0, ji_1, em_r, nn_r, Nat.add_sub_cancel, Nat.add_one_sub_one, add_neg1, nc_sub1, mU_same, mU_skip]
  obtain ⟨I, hI⟩ : ∃ I : Nat → wL → wS → Prop, I = fun x ls t => x ≤ l.length ∧ ∃ (st : List Int32) (y : Value) (m' : wMm), ls = [.ref 15, .int (J i), .int (J ((i + l.length : Nat) : Int)), .ref 87, .int (J st.length), .int (J ((i + x : Nat) : Int)), y] ∧ t = (m', RF e) ∧ (∀ c, c ≠ 21 → m' c = m c) ∧ okD (l.drop x) st.length ∧ evC F (l.drop x) st = evC F l [] ∧ pileM m' 21 st ∧ st.length ≤ 62 := ⟨_, rfl⟩
  refine PS_up 400 I (fun x ls t hv => ?_) (by omega) ?_
  · rw [hI] at hv
    obtain ⟨hx, st, y, m', rfl, rfl, hm, hd, hev, hp, h62⟩ := hv
    have hz' : m' 15 6 = J z := by rw [hm 15 (by omega)]; exact hz
    have h20 : m' 20 = m 20 := hm 20 (by omega)
    have h87 : m' 87 = m 87 := hm 87 (by omega)
    by_cases q : x < l.length
    · have hcx := hc x q
      have hdr : l.drop x = l.getD x 0 :: l.drop (x + 1) := by
        rw [List.drop_eq_getElem_cons q]
        simp [List.getD_eq_getElem?_getD, q]
      rw [hdr] at hd hev
      generalize l.getD x 0 = c at *
      have hnext : ∀ (st' : List Int32) (y : Value) (m2 : wMm), st' = stepC F c st → (∀ c, c ≠ 21 → m2 c = m c) → okD (l.drop (x + 1)) st'.length → pileM m2 21 st' → st'.length ≤ 62 → I (x + 1) [.ref 15, .int (J i), .int (J ((i + l.length : Nat) : Int)), .ref 87, .int (J st'.length), .int (J ((i + x : Nat) + 1 : Int)), y] (m2, RF e) := by
        intro st' y m2 g1 g2 g3 g4 g5
        rw [hI]
        subst g1
        exact ⟨by omega, _, y, m2, rfl, rfl, g2, g3, hev, g4, g5⟩
      have hsz : (i : Int) + x < (i + l.length : Nat) ∧ (i : Int) + x < z := by omega
      rcases hd with ⟨k1, k2, k3⟩ | ⟨k1, k2, k3⟩ | ⟨rfl, k2, k3⟩ | ⟨c', rfl, k1, k2, k3⟩
      · simp (disch := omega) only [wr_1, wr_2, wr_3, wr_4, wr_5, wr_6, wr_7, wr_8, wr_9, wr_10, wr_11, wr_12, wr_13, wr_14, wr_15, wr_16, wr_17, wr_18, wr_19, wr_20, wr_21, wr_22, wr_23, wr_24, wr_25, wr_26, wr_27, wr_28, wr_29, wr_30, wr_31, wr_32, wr_33, wr_34, wr_35, wr_36, wr_37, wr_38, wr_39, wr_40, wr_41, wr_42, wr_43, wr_44, wr_45, wr_46, wr_47, wr_48, wr_49, wr_50, wr_51, wr_52, wr_53, wr_54, wr_55, wr_56, wr_57, wr_58, wr_59, wr_60, wr_61, wr_62, wr_63, wr_64, wr_65, wr_66, wr_67, wr_68, wr_69, wr_70, wr_71, wr_72, wr_73, wr_74, wr_75, wr_76, wr_77, wr_78, wr_79, wr_80, wr_81, wr_82, wr_83, wr_84, wr_85, wr_86, wr_87, wr_88, wr_89, wr_90, wr_91, wr_92, wr_93, wr_94, wr_95, wr_96, wr_97, wr_98, wr_99, wr_100, wr_101, wr_102, wr_103, wr_104, wr_105, wr_106, wr_107, wr_108, wr_109, wr_110, wr_111, wr_112, wr_113, wr_114, wr_115, wr_116, wr_117, wr_118, wr_119, wr_120, wr_121, wr_den, wr_122, wr_123, wr_124, wr_125, wr_126, wr_127, wr_128, wr_129, wr_130, wr_131, wr_132, wr_133, wr_134, wr_135, wr_136, wr_137, wr_138, wr_139, wr_140, wr_141, wr_142, wr_143, wr_144, wr_145, wr_146, wr_147, wr_148, wr_149, wr_150, wr_151, wr_152, wr_153, wr_154, wr_155, wr_156, wr_157, wr_158, wr_159, wr_160, wr_161, wr_162, wr_163, wr_164, wr_165, wr_166, wr_167, wr_168, wr_169, wr_170, wr_171, wr_172, wr_173, wr_174, wr_175, wr_176, wr_177, wr_178, wr_179, wr_180, wr_181, wr_182, wr_183, wr_184, wr_185, wr_186, wr_187, wr_188, wr_189, wr_190, wr_191, wr_192, wr_193, wr_194, wr_195, wr_196, wr_197, wr_198, wr_199, wr_200, wr_201, wr_202, wr_203, wr_204, wr_205, wr_206, wsw_J, J_inj, wr_208, sh_0, sh_1, sh_2, sh_3, sh_4, sh_5, sh_6, sh_7, sh_8, sh_9, sh_10, sh_11, sh_12, sh_13, sh_14, sh_15, sh_16, sh_17, sh_18, sh_19, sh_20, sh_21, sh_22, sh_23, sh_24, sh_25, sh_26, sh_27, sh_28, sh_29, sh_30, sh_31, sh_32, sh_33, sh_34, sh_35, sh_36, sh_37, sh_38, sh_39, sh_40, sh_41, sh_42, sh_43, sh_44, sh_45, sh_46, sh_47, sh_48, sh_49, sh_50, sh_51, sh_52, sh_53, sh_54, sh_55, sh_56, sh_57, sh_58, sh_59, sh_60, sh_61, sh_62, sh_63, sh_64, sh_65, sh_66, sh_67, sh_68, sh_69, sh_70, sh_71, sh_72, sh_73, sh_74, sh_75, sh_76, sh_77, sh_78, sh_79, sh_80, sh_81, sh_82, sh_83, sh_84, sh_85, sh_86, sh_87, sh_88, sh_89, sh_90, sh_91, sh_92, sh_93, sh_94, sh_95, sh_96, sh_97, sh_98, sh_99, sh_100, sh_101, sh_102, sh_103, sh_104, sh_105, sh_106, sh_107, sh_108, sh_109, sh_110, sh_111, sh_112, sh_113, sh_114, sh_115, sh_116, sh_117, sh_118, sh_119, sh_120, sh_121, sh_122, sh_123, sh_124, sh_125, sh_126, sh_127, sh_128, sh_129, sh_130, sh_131, sh_132, sh_133, sh_134, sh_135, sh_136, sh_137, rf_0_0, rf_0_1, rf_0_2, rf_0_3, rf_0_4, rf_0_5, rf_0_6, rf_0_7, rf_0_8, rf_0_9, rf_0_10, rf_1_0, rf_1_2, rf_1_3, rf_1_4, rf_6_0, rf_6_1, rf_6_2, rf_6_3, rf_6_4, rf_6_5, rf_6_9, rf_6_10, rf_7_3, rf_7_4, rf_7_5, rf_7_6, rf_7_7, rf_12_0, rf_12_1, rf_15_1, rf_15_2, rf_15_3, rf_15_4, rf_15_5, rf_15_7, rf_22_1, rf_22_2, rf_22_3, rf_22_4, rf_27_1, rf_29_0, rf_31_7, rf_35_0, rf_35_1, rf_35_2, rf_35_3, rf_35_4, rf_35_5, rf_35_9, rf_35_10, rf_36_3, rf_36_4, rf_36_5, rf_36_6, rf_36_7, rf_41_0, rf_41_1, rf_44_1, rf_44_2, rf_44_3, rf_44_4, rf_44_5, rf_44_7, rf_51_1, rf_51_2, rf_51_3, rf_51_4, rf_56_1, rf_58_0, rf_60_7, rf_64_3, rf_64_4, rf_64_5, rf_64_6, rf_64_7, rf_69_0, rf_69_1, rf_72_1, rf_72_2, rf_72_3, rf_72_4, rf_72_5, rf_72_7, rf_79_1, rf_79_2, rf_79_3, rf_79_4, rf_84_1, rf_86_0, rf_86_1, rf_86_2, rf_86_3, rf_88_0, rf_88_1, rf_88_2, rf_92_0, rf_92_1, rf_92_2, rf_97_0, rf_97_1, rf_97_7, rf_97_8, rf_102_2, rf_102_3, rf_102_4, rf_107_7, rf_109_7, rf_111_7, rf_113_7, rf_115_7, rf_117_7, rf_119_0, rf_119_1, rf_119_2, rf_119_3, rf_119_6, rf_119_7, rf_119_8, rf_119_9, rf_119_10, rf_119_11, rf_119_12, rf_119_13, rf_119_14, rf_119_37, rf_119_38, rf_119_39, rf_119_40, rf_119_41, rf_e, kW2_0, kW_0, kW_1, kW_2, kW_3, kWc_ap, J_add, J_sub, J_mul, wc_eq, wc_ne, wc_lt, wc_ge, wc_gt, wc_le, b_true, b_not_true, J_in, J_nat, J_max, J_min, J_abs, J_div, J_rem, J_z, J_o, J_ltz, J_ite, wUI_mk, wUC_mk, wUR_mk, if_true, if_false, and_true, true_and, and_self, List.length_cons, List.length_nil, List.all_cons, List.all_nil, wIR, List.cons_append, List.nil_append, List.append_nil, Bool.and_self, Bool.and_true, Bool.true_and, Int32.reduceToInt, Nat.le_refl, Nat.sub_self, List.replicate_zero, List.reduceReplicate, not_false_eq_true, not_true_eq_false, reduceCtorEq, true_or, or_true, or_false, false_or, Int.toNat_natCast, Nat.reduceEqDiff, Nat.reduceAdd, Nat.reduceSub, Nat.reduceMul, Nat.reduceLeDiff, Nat.zero_add, Int.reduceToNat, Int.reduceAdd, Int.reduceSub, Int.reduceMul, Int.reduceNeg, Int.reduceLT, Int.reduceLE, Int.reduceEq, ↓reduceIte, decide_true, decide_false, Bool.not_true, Bool.not_false, Bool.false_eq_true, tn_add, tn_mul, tn_sub, wb_ne, wb_eq, jb01, jb00, jb11, ji_0, ji_1, em_r, nn_r, Nat.add_sub_cancel, Nat.add_one_sub_one, add_neg1, nc_sub1, mU_same, mU_skip, hz', h20, hcx]
        rw [if_pos (by omega), if_pos (by omega)]
        refine ⟨by omega, ?_⟩
        rw [if_pos (by omega), if_neg (by omega), if_pos (by omega)]
        have hs : stepC F c st = J c :: st := by unfold stepC; rw [if_pos k1]
        exact hnext (J c :: st) _ _ hs.symm (fun c hc => by rw [mU_ne hc]; exact hm c hc) k3 (pile_push hp _) (by simp only [List.length_cons]; omega)
      · have h7 := hF (c - 10000) (by omega)
        rw [show c - 10000 + 1 = c - 9999 by omega] at h7
        simp (disch := omega) only [wr_1, wr_2, wr_3, wr_4, wr_5, wr_6, wr_7, wr_8, wr_9, wr_10, wr_11, wr_12, wr_13, wr_14, wr_15, wr_16, wr_17, wr_18, wr_19, wr_20, wr_21, wr_22, wr_23, wr_24, wr_25, wr_26, wr_27, wr_28, wr_29, wr_30, wr_31, wr_32, wr_33, wr_34, wr_35, wr_36, wr_37, wr_38, wr_39, wr_40, wr_41, wr_42, wr_43, wr_44, wr_45, wr_46, wr_47, wr_48, wr_49, wr_50, wr_51, wr_52, wr_53, wr_54, wr_55, wr_56, wr_57, wr_58, wr_59, wr_60, wr_61, wr_62, wr_63, wr_64, wr_65, wr_66, wr_67, wr_68, wr_69, wr_70, wr_71, wr_72, wr_73, wr_74, wr_75, wr_76, wr_77, wr_78, wr_79, wr_80, wr_81, wr_82, wr_83, wr_84, wr_85, wr_86, wr_87, wr_88, wr_89, wr_90, wr_91, wr_92, wr_93, wr_94, wr_95, wr_96, wr_97, wr_98, wr_99, wr_100, wr_101, wr_102, wr_103, wr_104, wr_105, wr_106, wr_107, wr_108, wr_109, wr_110, wr_111, wr_112, wr_113, wr_114, wr_115, wr_116, wr_117, wr_118, wr_119, wr_120, wr_121, wr_den, wr_122, wr_123, wr_124, wr_125, wr_126, wr_127, wr_128, wr_129, wr_130, wr_131, wr_132, wr_133, wr_134, wr_135, wr_136, wr_137, wr_138, wr_139, wr_140, wr_141, wr_142, wr_143, wr_144, wr_145, wr_146, wr_147, wr_148, wr_149, wr_150, wr_151, wr_152, wr_153, wr_154, wr_155, wr_156, wr_157, wr_158, wr_159, wr_160, wr_161, wr_162, wr_163, wr_164, wr_165, wr_166, wr_167, wr_168, wr_169, wr_170, wr_171, wr_172, wr_173, wr_174, wr_175, wr_176, wr_177, wr_178, wr_179, wr_180, wr_181, wr_182, wr_183, wr_184, wr_185, wr_186, wr_187, wr_188, wr_189, wr_190, wr_191, wr_192, wr_193, wr_194, wr_195, wr_196, wr_197, wr_198, wr_199, wr_200, wr_201, wr_202, wr_203, wr_204, wr_205, wr_206, wsw_J, J_inj, wr_208, sh_0, sh_1, sh_2, sh_3, sh_4, sh_5, sh_6, sh_7, sh_8, sh_9, sh_10, sh_11, sh_12, sh_13, sh_14, sh_15, sh_16, sh_17, sh_18, sh_19, sh_20, sh_21, sh_22, sh_23, sh_24, sh_25, sh_26, sh_27, sh_28, sh_29, sh_30, sh_31, sh_32, sh_33, sh_34, sh_35, sh_36, sh_37, sh_38, sh_39, sh_40, sh_41, sh_42, sh_43, sh_44, sh_45, sh_46, sh_47, sh_48, sh_49, sh_50, sh_51, sh_52, sh_53, sh_54, sh_55, sh_56, sh_57, sh_58, sh_59, sh_60, sh_61, sh_62, sh_63, sh_64, sh_65, sh_66, sh_67, sh_68, sh_69, sh_70, sh_71, sh_72, sh_73, sh_74, sh_75, sh_76, sh_77, sh_78, sh_79, sh_80, sh_81, sh_82, sh_83, sh_84, sh_85, sh_86, sh_87, sh_88, sh_89, sh_90, sh_91, sh_92, sh_93, sh_94, sh_95, sh_96, sh_97, sh_98, sh_99, sh_100, sh_101, sh_102, sh_103, sh_104, sh_105, sh_106, sh_107, sh_108, sh_109, sh_110, sh_111, sh_112, sh_113, sh_114, sh_115, sh_116, sh_117, sh_118, sh_119, sh_120, sh_121, sh_122, sh_123, sh_124, sh_125, sh_126, sh_127, sh_128, sh_129, sh_130, sh_131, sh_132, sh_133, sh_134, sh_135, sh_136, sh_137, rf_0_0, rf_0_1, rf_0_2, rf_0_3, rf_0_4, rf_0_5, rf_0_6, rf_0_7, rf_0_8, rf_0_9, rf_0_10, rf_1_0, rf_1_2, rf_1_3, rf_1_4, rf_6_0, rf_6_1, rf_6_2, rf_6_3, rf_6_4, rf_6_5, rf_6_9, rf_6_10, rf_7_3, rf_7_4, rf_7_5, rf_7_6, rf_7_7, rf_12_0, rf_12_1, rf_15_1, rf_15_2, rf_15_3, rf_15_4, rf_15_5, rf_15_7, rf_22_1, rf_22_2, rf_22_3, rf_22_4, rf_27_1, rf_29_0, rf_31_7, rf_35_0, rf_35_1, rf_35_2, rf_35_3, rf_35_4, rf_35_5, rf_35_9, rf_35_10, rf_36_3, rf_36_4, rf_36_5, rf_36_6, rf_36_7, rf_41_0, rf_41_1, rf_44_1, rf_44_2, rf_44_3, rf_44_4, rf_44_5, rf_44_7, rf_51_1, rf_51_2, rf_51_3, rf_51_4, rf_56_1, rf_58_0, rf_60_7, rf_64_3, rf_64_4, rf_64_5, rf_64_6, rf_64_7, rf_69_0, rf_69_1, rf_72_1, rf_72_2, rf_72_3, rf_72_4, rf_72_5, rf_72_7, rf_79_1, rf_79_2, rf_79_3, rf_79_4, rf_84_1, rf_86_0, rf_86_1, rf_86_2, rf_86_3, rf_88_0, rf_88_1, rf_88_2, rf_92_0, rf_92_1, rf_92_2, rf_97_0, rf_97_1, rf_97_7, rf_97_8, rf_102_2, rf_102_3, rf_102_4, rf_107_7, rf_109_7, rf_111_7, rf_113_7, rf_115_7, rf_117_7, rf_119_0, rf_119_1, rf_119_2, rf_119_3, rf_119_6, rf_119_7, rf_119_8, rf_119_9, rf_119_10, rf_119_11, rf_119_12, rf_119_13, rf_119_14, rf_119_37, rf_119_38, rf_119_39, rf_119_40, rf_119_41, rf_e, kW2_0, kW_0, kW_1, kW_2, kW_3, kWc_ap, J_add, J_sub, J_mul, wc_eq, wc_ne, wc_lt, wc_ge, wc_gt, wc_le, b_true, b_not_true, J_in, J_nat, J_max, J_min, J_abs, J_div, J_rem, J_z, J_o, J_ltz, J_ite, wUI_mk, wUC_mk, wUR_mk, if_true, if_false, and_true, true_and, and_self, List.length_cons, List.length_nil, List.all_cons, List.all_nil, wIR, List.cons_append, List.nil_append, List.append_nil, Bool.and_self, Bool.and_true, Bool.true_and, Int32.reduceToInt, Nat.le_refl, Nat.sub_self, List.replicate_zero, List.reduceReplicate, not_false_eq_true, not_true_eq_false, reduceCtorEq, true_or, or_true, or_false, false_or, Int.toNat_natCast, Nat.reduceEqDiff, Nat.reduceAdd, Nat.reduceSub, Nat.reduceMul, Nat.reduceLeDiff, Nat.zero_add, Int.reduceToNat, Int.reduceAdd, Int.reduceSub, Int.reduceMul, Int.reduceNeg, Int.reduceLT, Int.reduceLE, Int.reduceEq, ↓reduceIte, decide_true, decide_false, Bool.not_true, Bool.not_false, Bool.false_eq_true, tn_add, tn_mul, tn_sub, wb_ne, wb_eq, jb01, jb00, jb11, ji_0, ji_1, em_r, nn_r, Nat.add_sub_cancel, Nat.add_one_sub_one, add_neg1, nc_sub1, mU_same, mU_skip, hz', h20, hcx, h87]
        rw [if_pos (by omega), if_pos (by omega)]
        refine ⟨by omega, ?_⟩
        rw [if_pos (by omega), if_neg (by omega), if_neg (by omega), h7]
        have hs : stepC F c st = F (c - 9999) :: st := by unfold stepC; rw [if_neg (by omega), if_pos (by omega)]
        exact hnext (F (c - 9999) :: st) _ _ hs.symm (fun c hc => by rw [mU_ne hc]; exact hm c hc) k3 (pile_push hp _) (by simp only [List.length_cons]; omega)
      · obtain ⟨x1, st1, rfl⟩ : ∃ x1 st1, st = x1 :: st1 := by
          cases st with
          | nil => simp only [List.length_nil] at k2; omega
          | cons x1 st1 => exact ⟨x1, st1, rfl⟩
        simp only [List.length_cons] at k2 k3 h62
        simp (disch := omega) only [wr_1, wr_2, wr_3, wr_4, wr_5, wr_6, wr_7, wr_8, wr_9, wr_10, wr_11, wr_12, wr_13, wr_14, wr_15, wr_16, wr_17, wr_18, wr_19, wr_20, wr_21, wr_22, wr_23, wr_24, wr_25, wr_26, wr_27, wr_28, wr_29, wr_30, wr_31, wr_32, wr_33, wr_34, wr_35, wr_36, wr_37, wr_38, wr_39, wr_40, wr_41, wr_42, wr_43, wr_44, wr_45, wr_46, wr_47, wr_48, wr_49, wr_50, wr_51, wr_52, wr_53, wr_54, wr_55, wr_56, wr_57, wr_58, wr_59, wr_60, wr_61, wr_62, wr_63, wr_64, wr_65, wr_66, wr_67, wr_68, wr_69, wr_70, wr_71, wr_72, wr_73, wr_74, wr_75, wr_76, wr_77, wr_78, wr_79, wr_80, wr_81, wr_82, wr_83, wr_84, wr_85, wr_86, wr_87, wr_88, wr_89, wr_90, wr_91, wr_92, wr_93, wr_94, wr_95, wr_96, wr_97, wr_98, wr_99, wr_100, wr_101, wr_102, wr_103, wr_104, wr_105, wr_106, wr_107, wr_108, wr_109, wr_110, wr_111, wr_112, wr_113, wr_114, wr_115, wr_116, wr_117, wr_118, wr_119, wr_120, wr_121, wr_den, wr_122, wr_123, wr_124, wr_125, wr_126, wr_127, wr_128, wr_129, wr_130, wr_131, wr_132, wr_133, wr_134, wr_135, wr_136, wr_137, wr_138, wr_139, wr_140, wr_141, wr_142, wr_143, wr_144, wr_145, wr_146, wr_147, wr_148, wr_149, wr_150, wr_151, wr_152, wr_153, wr_154, wr_155, wr_156, wr_157, wr_158, wr_159, wr_160, wr_161, wr_162, wr_163, wr_164, wr_165, wr_166, wr_167, wr_168, wr_169, wr_170, wr_171, wr_172, wr_173, wr_174, wr_175, wr_176, wr_177, wr_178, wr_179, wr_180, wr_181, wr_182, wr_183, wr_184, wr_185, wr_186, wr_187, wr_188, wr_189, wr_190, wr_191, wr_192, wr_193, wr_194, wr_195, wr_196, wr_197, wr_198, wr_199, wr_200, wr_201, wr_202, wr_203, wr_204, wr_205, wr_206, wsw_J, J_inj, wr_208, sh_0, sh_1, sh_2, sh_3, sh_4, sh_5, sh_6, sh_7, sh_8, sh_9, sh_10, sh_11, sh_12, sh_13, sh_14, sh_15, sh_16, sh_17, sh_18, sh_19, sh_20, sh_21, sh_22, sh_23, sh_24, sh_25, sh_26, sh_27, sh_28, sh_29, sh_30, sh_31, sh_32, sh_33, sh_34, sh_35, sh_36, sh_37, sh_38, sh_39, sh_40, sh_41, sh_42, sh_43, sh_44, sh_45, sh_46, sh_47, sh_48, sh_49, sh_50, sh_51, sh_52, sh_53, sh_54, sh_55, sh_56, sh_57, sh_58, sh_59, sh_60, sh_61, sh_62, sh_63, sh_64, sh_65, sh_66, sh_67, sh_68, sh_69, sh_70, sh_71, sh_72, sh_73, sh_74, sh_75, sh_76, sh_77, sh_78, sh_79, sh_80, sh_81, sh_82, sh_83, sh_84, sh_85, sh_86, sh_87, sh_88, sh_89, sh_90, sh_91, sh_92, sh_93, sh_94, sh_95, sh_96, sh_97, sh_98, sh_99, sh_100, sh_101, sh_102, sh_103, sh_104, sh_105, sh_106, sh_107, sh_108, sh_109, sh_110, sh_111, sh_112, sh_113, sh_114, sh_115, sh_116, sh_117, sh_118, sh_119, sh_120, sh_121, sh_122, sh_123, sh_124, sh_125, sh_126, sh_127, sh_128, sh_129, sh_130, sh_131, sh_132, sh_133, sh_134, sh_135, sh_136, sh_137, rf_0_0, rf_0_1, rf_0_2, rf_0_3, rf_0_4, rf_0_5, rf_0_6, rf_0_7, rf_0_8, rf_0_9, rf_0_10, rf_1_0, rf_1_2, rf_1_3, rf_1_4, rf_6_0, rf_6_1, rf_6_2, rf_6_3, rf_6_4, rf_6_5, rf_6_9, rf_6_10, rf_7_3, rf_7_4, rf_7_5, rf_7_6, rf_7_7, rf_12_0, rf_12_1, rf_15_1, rf_15_2, rf_15_3, rf_15_4, rf_15_5, rf_15_7, rf_22_1, rf_22_2, rf_22_3, rf_22_4, rf_27_1, rf_29_0, rf_31_7, rf_35_0, rf_35_1, rf_35_2, rf_35_3, rf_35_4, rf_35_5, rf_35_9, rf_35_10, rf_36_3, rf_36_4, rf_36_5, rf_36_6, rf_36_7, rf_41_0, rf_41_1, rf_44_1, rf_44_2, rf_44_3, rf_44_4, rf_44_5, rf_44_7, rf_51_1, rf_51_2, rf_51_3, rf_51_4, rf_56_1, rf_58_0, rf_60_7, rf_64_3, rf_64_4, rf_64_5, rf_64_6, rf_64_7, rf_69_0, rf_69_1, rf_72_1, rf_72_2, rf_72_3, rf_72_4, rf_72_5, rf_72_7, rf_79_1, rf_79_2, rf_79_3, rf_79_4, rf_84_1, rf_86_0, rf_86_1, rf_86_2, rf_86_3, rf_88_0, rf_88_1, rf_88_2, rf_92_0, rf_92_1, rf_92_2, rf_97_0, rf_97_1, rf_97_7, rf_97_8, rf_102_2, rf_102_3, rf_102_4, rf_107_7, rf_109_7, rf_111_7, rf_113_7, rf_115_7, rf_117_7, rf_119_0, rf_119_1, rf_119_2, rf_119_3, rf_119_6, rf_119_7, rf_119_8, rf_119_9, rf_119_10, rf_119_11, rf_119_12, rf_119_13, rf_119_14, rf_119_37, rf_119_38, rf_119_39, rf_119_40, rf_119_41, rf_e, kW2_0, kW_0, kW_1, kW_2, kW_3, kWc_ap, J_add, J_sub, J_mul, wc_eq, wc_ne, wc_lt, wc_ge, wc_gt, wc_le, b_true, b_not_true, J_in, J_nat, J_max, J_min, J_abs, J_div, J_rem, J_z, J_o, J_ltz, J_ite, wUI_mk, wUC_mk, wUR_mk, if_true, if_false, and_true, true_and, and_self, List.length_cons, List.length_nil, List.all_cons, List.all_nil, wIR, List.cons_append, List.nil_append, List.append_nil, Bool.and_self, Bool.and_true, Bool.true_and, Int32.reduceToInt, Nat.le_refl, Nat.sub_self, List.replicate_zero, List.reduceReplicate, not_false_eq_true, not_true_eq_false, reduceCtorEq, true_or, or_true, or_false, false_or, Int.toNat_natCast, Nat.reduceEqDiff, Nat.reduceAdd, Nat.reduceSub, Nat.reduceMul, Nat.reduceLeDiff, Nat.zero_add, Int.reduceToNat, Int.reduceAdd, Int.reduceSub, Int.reduceMul, Int.reduceNeg, Int.reduceLT, Int.reduceLE, Int.reduceEq, ↓reduceIte, decide_true, decide_false, Bool.not_true, Bool.not_false, Bool.false_eq_true, tn_add, tn_mul, tn_sub, wb_ne, wb_eq, jb01, jb00, jb11, ji_0, ji_1, em_r, nn_r, Nat.add_sub_cancel, Nat.add_one_sub_one, add_neg1, nc_sub1, mU_same, mU_skip, hz', h20, hcx, pile_top hp]
        rw [if_pos (by omega), if_pos (by omega)]
        refine ⟨by omega, ?_⟩
        rw [if_neg (by omega), if_pos (by omega), if_neg (by omega)]
        exact hnext (oSub (J 1) x1 :: st1) _ _ rfl (fun c hc => by rw [mU_ne hc]; exact hm c hc) k3 (pile_set hp _) (by simp only [List.length_cons]; omega)
      · obtain ⟨x1, x2, st2, rfl⟩ : ∃ x1 x2 st2, st = x1 :: x2 :: st2 := by
          cases st with
          | nil => simp only [List.length_nil] at k2; omega
          | cons x1 st1 =>
            cases st1 with
            | nil => simp only [List.length_cons, List.length_nil] at k2; omega
            | cons x2 st2 => exact ⟨x1, x2, st2, rfl⟩
        have t1 := pile_top hp
        have t2 := pile_top (pile_pop hp)
        simp only [List.length_cons] at k2 k3 h62 t1 t2
        have hj : ∀ (t : wS) (Q : Option Value → wS → Prop), PM (nX4_joined K SH) [.int (J (((20000 + c' : Nat) : Int) - 20000)), .int x2, .int x1] t Q = Q (some (.int (joinM c' x2 x1))) t := fun t Q => by
          rw [show ((20000 + c' : Nat) : Int) - 20000 = (c' : Int) by omega]
          exact c_joined K Q t x2 x1 k1
        have k1' : c' ≤ 124 ∧ c' ≠ 33 := by unfold sgnM at k1; omega
        simp (disch := omega) only [wr_1, wr_2, wr_3, wr_4, wr_5, wr_6, wr_7, wr_8, wr_9, wr_10, wr_11, wr_12, wr_13, wr_14, wr_15, wr_16, wr_17, wr_18, wr_19, wr_20, wr_21, wr_22, wr_23, wr_24, wr_25, wr_26, wr_27, wr_28, wr_29, wr_30, wr_31, wr_32, wr_33, wr_34, wr_35, wr_36, wr_37, wr_38, wr_39, wr_40, wr_41, wr_42, wr_43, wr_44, wr_45, wr_46, wr_47, wr_48, wr_49, wr_50, wr_51, wr_52, wr_53, wr_54, wr_55, wr_56, wr_57, wr_58, wr_59, wr_60, wr_61, wr_62, wr_63, wr_64, wr_65, wr_66, wr_67, wr_68, wr_69, wr_70, wr_71, wr_72, wr_73, wr_74, wr_75, wr_76, wr_77, wr_78, wr_79, wr_80, wr_81, wr_82, wr_83, wr_84, wr_85, wr_86, wr_87, wr_88, wr_89, wr_90, wr_91, wr_92, wr_93, wr_94, wr_95, wr_96, wr_97, wr_98, wr_99, wr_100, wr_101, wr_102, wr_103, wr_104, wr_105, wr_106, wr_107, wr_108, wr_109, wr_110, wr_111, wr_112, wr_113, wr_114, wr_115, wr_116, wr_117, wr_118, wr_119, wr_120, wr_121, wr_den, wr_122, wr_123, wr_124, wr_125, wr_126, wr_127, wr_128, wr_129, wr_130, wr_131, wr_132, wr_133, wr_134, wr_135, wr_136, wr_137, wr_138, wr_139, wr_140, wr_141, wr_142, wr_143, wr_144, wr_145, wr_146, wr_147, wr_148, wr_149, wr_150, wr_151, wr_152, wr_153, wr_154, wr_155, wr_156, wr_157, wr_158, wr_159, wr_160, wr_161, wr_162, wr_163, wr_164, wr_165, wr_166, wr_167, wr_168, wr_169, wr_170, wr_171, wr_172, wr_173, wr_174, wr_175, wr_176, wr_177, wr_178, wr_179, wr_180, wr_181, wr_182, wr_183, wr_184, wr_185, wr_186, wr_187, wr_188, wr_189, wr_190, wr_191, wr_192, wr_193, wr_194, wr_195, wr_196, wr_197, wr_198, wr_199, wr_200, wr_201, wr_202, wr_203, wr_204, wr_205, wr_206, wsw_J, J_inj, wr_208, sh_0, sh_1, sh_2, sh_3, sh_4, sh_5, sh_6, sh_7, sh_8, sh_9, sh_10, sh_11, sh_12, sh_13, sh_14, sh_15, sh_16, sh_17, sh_18, sh_19, sh_20, sh_21, sh_22, sh_23, sh_24, sh_25, sh_26, sh_27, sh_28, sh_29, sh_30, sh_31, sh_32, sh_33, sh_34, sh_35, sh_36, sh_37, sh_38, sh_39, sh_40, sh_41, sh_42, sh_43, sh_44, sh_45, sh_46, sh_47, sh_48, sh_49, sh_50, sh_51, sh_52, sh_53, sh_54, sh_55, sh_56, sh_57, sh_58, sh_59, sh_60, sh_61, sh_62, sh_63, sh_64, sh_65, sh_66, sh_67, sh_68, sh_69, sh_70, sh_71, sh_72, sh_73, sh_74, sh_75, sh_76, sh_77, sh_78, sh_79, sh_80, sh_81, sh_82, sh_83, sh_84, sh_85, sh_86, sh_87, sh_88, sh_89, sh_90, sh_91, sh_92, sh_93, sh_94, sh_95, sh_96, sh_97, sh_98, sh_99, sh_100, sh_101, sh_102, sh_103, sh_104, sh_105, sh_106, sh_107, sh_108, sh_109, sh_110, sh_111, sh_112, sh_113, sh_114, sh_115, sh_116, sh_117, sh_118, sh_119, sh_120, sh_121, sh_122, sh_123, sh_124, sh_125, sh_126, sh_127, sh_128, sh_129, sh_130, sh_131, sh_132, sh_133, sh_134, sh_135, sh_136, sh_137, rf_0_0, rf_0_1, rf_0_2, rf_0_3, rf_0_4, rf_0_5, rf_0_6, rf_0_7, rf_0_8, rf_0_9, rf_0_10, rf_1_0, rf_1_2, rf_1_3, rf_1_4, rf_6_0, rf_6_1, rf_6_2, rf_6_3, rf_6_4, rf_6_5, rf_6_9, rf_6_10, rf_7_3, rf_7_4, rf_7_5, rf_7_6, rf_7_7, rf_12_0, rf_12_1, rf_15_1, rf_15_2, rf_15_3, rf_15_4, rf_15_5, rf_15_7, rf_22_1, rf_22_2, rf_22_3, rf_22_4, rf_27_1, rf_29_0, rf_31_7, rf_35_0, rf_35_1, rf_35_2, rf_35_3, rf_35_4, rf_35_5, rf_35_9, rf_35_10, rf_36_3, rf_36_4, rf_36_5, rf_36_6, rf_36_7, rf_41_0, rf_41_1, rf_44_1, rf_44_2, rf_44_3, rf_44_4, rf_44_5, rf_44_7, rf_51_1, rf_51_2, rf_51_3, rf_51_4, rf_56_1, rf_58_0, rf_60_7, rf_64_3, rf_64_4, rf_64_5, rf_64_6, rf_64_7, rf_69_0, rf_69_1, rf_72_1, rf_72_2, rf_72_3, rf_72_4, rf_72_5, rf_72_7, rf_79_1, rf_79_2, rf_79_3, rf_79_4, rf_84_1, rf_86_0, rf_86_1, rf_86_2, rf_86_3, rf_88_0, rf_88_1, rf_88_2, rf_92_0, rf_92_1, rf_92_2, rf_97_0, rf_97_1, rf_97_7, rf_97_8, rf_102_2, rf_102_3, rf_102_4, rf_107_7, rf_109_7, rf_111_7, rf_113_7, rf_115_7, rf_117_7, rf_119_0, rf_119_1, rf_119_2, rf_119_3, rf_119_6, rf_119_7, rf_119_8, rf_119_9, rf_119_10, rf_119_11, rf_119_12, rf_119_13, rf_119_14, rf_119_37, rf_119_38, rf_119_39, rf_119_40, rf_119_41, rf_e, kW2_0, kW_0, kW_1, kW_2, kW_3, kWc_ap, J_add, J_sub, J_mul, wc_eq, wc_ne, wc_lt, wc_ge, wc_gt, wc_le, b_true, b_not_true, J_in, J_nat, J_max, J_min, J_abs, J_div, J_rem, J_z, J_o, J_ltz, J_ite, wUI_mk, wUC_mk, wUR_mk, if_true, if_false, and_true, true_and, and_self, List.length_cons, List.length_nil, List.all_cons, List.all_nil, wIR, List.cons_append, List.nil_append, List.append_nil, Bool.and_self, Bool.and_true, Bool.true_and, Int32.reduceToInt, Nat.le_refl, Nat.sub_self, List.replicate_zero, List.reduceReplicate, not_false_eq_true, not_true_eq_false, reduceCtorEq, true_or, or_true, or_false, false_or, Int.toNat_natCast, Nat.reduceEqDiff, Nat.reduceAdd, Nat.reduceSub, Nat.reduceMul, Nat.reduceLeDiff, Nat.zero_add, Int.reduceToNat, Int.reduceAdd, Int.reduceSub, Int.reduceMul, Int.reduceNeg, Int.reduceLT, Int.reduceLE, Int.reduceEq, ↓reduceIte, decide_true, decide_false, Bool.not_true, Bool.not_false, Bool.false_eq_true, tn_add, tn_mul, tn_sub, wb_ne, wb_eq, jb01, jb00, jb11, ji_0, ji_1, em_r, nn_r, Nat.add_sub_cancel, Nat.add_one_sub_one, add_neg1, nc_sub1, mU_same, mU_skip, hz', h20, hcx, t1, t2, hj]
        rw [if_pos (by omega), if_pos (by omega)]
        refine ⟨by omega, ?_⟩
        rw [if_neg (by omega), if_neg (by omega), if_neg (by omega)]
        have hs : stepC F (20000 + c') (x1 :: x2 :: st2) = joinM c' x2 x1 :: st2 := by unfold stepC; rw [if_neg (by omega), if_neg (by omega), if_neg (by omega), Nat.add_sub_cancel_left]; rfl
        exact hnext (joinM c' x2 x1 :: st2) _ _ hs.symm (fun c hc => by rw [mU_ne hc]; exact hm c hc) k3 (pile_set (pile_pop hp) _) (by simp only [List.length_cons]; omega)
    · have hx2 : x = l.length := by omega
      subst hx2
      rw [List.drop_length] at hev hd
      have hev' : st = evC F l [] := hev
      rw [← hev'] at h1 ⊢
      obtain ⟨a, rfl⟩ : ∃ a, st = [a] := by
        cases st with
        | nil => cases h1
        | cons a r =>
          cases r with
          | nil => exact ⟨a, rfl⟩
          | cons b r => simp only [List.length_cons] at h1; omega
      have h0 : m' 21 0 = a := hp 0 (by simp)
      simp (disch := omega) only [wr_1, wr_2, wr_3, wr_4, wr_5, wr_6, wr_7, wr_8, wr_9, wr_10, wr_11, wr_12, wr_13, wr_14, wr_15, wr_16, wr_17, wr_18, wr_19, wr_20, wr_21, wr_22, wr_23, wr_24, wr_25, wr_26, wr_27, wr_28, wr_29, wr_30, wr_31, wr_32, wr_33, wr_34, wr_35, wr_36, wr_37, wr_38, wr_39, wr_40, wr_41, wr_42, wr_43, wr_44, wr_45, wr_46, wr_47, wr_48, wr_49, wr_50, wr_51, wr_52, wr_53, wr_54, wr_55, wr_56, wr_57, wr_58, wr_59, wr_60, wr_61, wr_62, wr_63, wr_64, wr_65, wr_66, wr_67, wr_68, wr_69, wr_70, wr_71, wr_72, wr_73, wr_74, wr_75, wr_76, wr_77, wr_78, wr_79, wr_80, wr_81, wr_82, wr_83, wr_84, wr_85, wr_86, wr_87, wr_88, wr_89, wr_90, wr_91, wr_92, wr_93, wr_94, wr_95, wr_96, wr_97, wr_98, wr_99, wr_100, wr_101, wr_102, wr_103, wr_104, wr_105, wr_106, wr_107, wr_108, wr_109, wr_110, wr_111, wr_112, wr_113, wr_114, wr_115, wr_116, wr_117, wr_118, wr_119, wr_120, wr_121, wr_den, wr_122, wr_123, wr_124, wr_125, wr_126, wr_127, wr_128, wr_129, wr_130, wr_131, wr_132, wr_133, wr_134, wr_135, wr_136, wr_137, wr_138, wr_139, wr_140, wr_141, wr_142, wr_143, wr_144, wr_145, wr_146, wr_147, wr_148, wr_149, wr_150, wr_151, wr_152, wr_153, wr_154, wr_155, wr_156, wr_157, wr_158, wr_159, wr_160, wr_161, wr_162, wr_163, wr_164, wr_165, wr_166, wr_167, wr_168, wr_169, wr_170, wr_171, wr_172, wr_173, wr_174, wr_175, wr_176, wr_177, wr_178, wr_179, wr_180, wr_181, wr_182, wr_183, wr_184, wr_185, wr_186, wr_187, wr_188, wr_189, wr_190, wr_191, wr_192, wr_193, wr_194, wr_195, wr_196, wr_197, wr_198, wr_199, wr_200, wr_201, wr_202, wr_203, wr_204, wr_205, wr_206, wsw_J, J_inj, wr_208, sh_0, sh_1, sh_2, sh_3, sh_4, sh_5, sh_6, sh_7, sh_8, sh_9, sh_10, sh_11, sh_12, sh_13, sh_14, sh_15, sh_16, sh_17, sh_18, sh_19, sh_20, sh_21, sh_22, sh_23, sh_24, sh_25, sh_26, sh_27, sh_28, sh_29, sh_30, sh_31, sh_32, sh_33, sh_34, sh_35, sh_36, sh_37, sh_38, sh_39, sh_40, sh_41, sh_42, sh_43, sh_44, sh_45, sh_46, sh_47, sh_48, sh_49, sh_50, sh_51, sh_52, sh_53, sh_54, sh_55, sh_56, sh_57, sh_58, sh_59, sh_60, sh_61, sh_62, sh_63, sh_64, sh_65, sh_66, sh_67, sh_68, sh_69, sh_70, sh_71, sh_72, sh_73, sh_74, sh_75, sh_76, sh_77, sh_78, sh_79, sh_80, sh_81, sh_82, sh_83, sh_84, sh_85, sh_86, sh_87, sh_88, sh_89, sh_90, sh_91, sh_92, sh_93, sh_94, sh_95, sh_96, sh_97, sh_98, sh_99, sh_100, sh_101, sh_102, sh_103, sh_104, sh_105, sh_106, sh_107, sh_108, sh_109, sh_110, sh_111, sh_112, sh_113, sh_114, sh_115, sh_116, sh_117, sh_118, sh_119, sh_120, sh_121, sh_122, sh_123, sh_124, sh_125, sh_126, sh_127, sh_128, sh_129, sh_130, sh_131, sh_132, sh_133, sh_134, sh_135, sh_136, sh_137, rf_0_0, rf_0_1, rf_0_2, rf_0_3, rf_0_4, rf_0_5, rf_0_6, rf_0_7, rf_0_8, rf_0_9, rf_0_10, rf_1_0, rf_1_2, rf_1_3, rf_1_4, rf_6_0, rf_6_1, rf_6_2, rf_6_3, rf_6_4, rf_6_5, rf_6_9, rf_6_10, rf_7_3, rf_7_4, rf_7_5, rf_7_6, rf_7_7, rf_12_0, rf_12_1, rf_15_1, rf_15_2, rf_15_3, rf_15_4, rf_15_5, rf_15_7, rf_22_1, rf_22_2, rf_22_3, rf_22_4, rf_27_1, rf_29_0, rf_31_7, rf_35_0, rf_35_1, rf_35_2, rf_35_3, rf_35_4, rf_35_5, rf_35_9, rf_35_10, rf_36_3, rf_36_4, rf_36_5, rf_36_6, rf_36_7, rf_41_0, rf_41_1, rf_44_1, rf_44_2, rf_44_3, rf_44_4, rf_44_5, rf_44_7, rf_51_1, rf_51_2, rf_51_3, rf_51_4, rf_56_1, rf_58_0, rf_60_7, rf_64_3, rf_64_4, rf_64_5, rf_64_6, rf_64_7, rf_69_0, rf_69_1, rf_72_1, rf_72_2, rf_72_3, rf_72_4, rf_72_5, rf_72_7, rf_79_1, rf_79_2, rf_79_3, rf_79_4, rf_84_1, rf_86_0, rf_86_1, rf_86_2, rf_86_3, rf_88_0, rf_88_1, rf_88_2, rf_92_0, rf_92_1, rf_92_2, rf_97_0, rf_97_1, rf_97_7, rf_97_8, rf_102_2, rf_102_3, rf_102_4, rf_107_7, rf_109_7, rf_111_7, rf_113_7, rf_115_7, rf_117_7, rf_119_0, rf_119_1, rf_119_2, rf_119_3, rf_119_6, rf_119_7, rf_119_8, rf_119_9, rf_119_10, rf_119_11, rf_119_12, rf_119_13, rf_119_14, rf_119_37, rf_119_38, rf_119_39, rf_119_40, rf_119_41, rf_e, kW2_0, kW_0, kW_1, kW_2, kW_3, kWc_ap, J_add, J_sub, J_mul, wc_eq, wc_ne, wc_lt, wc_ge, wc_gt, wc_le, b_true, b_not_true, J_in, J_nat, J_max, J_min, J_abs, J_div, J_rem, J_z, J_o, J_ltz, J_ite, wUI_mk, wUC_mk, wUR_mk, if_true, if_false, and_true, true_and, and_self, List.length_cons, List.length_nil, List.all_cons, List.all_nil, wIR, List.cons_append, List.nil_append, List.append_nil, Bool.and_self, Bool.and_true, Bool.true_and, Int32.reduceToInt, Nat.le_refl, Nat.sub_self, List.replicate_zero, List.reduceReplicate, not_false_eq_true, not_true_eq_false, reduceCtorEq, true_or, or_true, or_false, false_or, Int.toNat_natCast, Nat.reduceEqDiff, Nat.reduceAdd, Nat.reduceSub, Nat.reduceMul, Nat.reduceLeDiff, Nat.zero_add, Int.reduceToNat, Int.reduceAdd, Int.reduceSub, Int.reduceMul, Int.reduceNeg, Int.reduceLT, Int.reduceLE, Int.reduceEq, ↓reduceIte, decide_true, decide_false, Bool.not_true, Bool.not_false, Bool.false_eq_true, tn_add, tn_mul, tn_sub, wb_ne, wb_eq, jb01, jb00, jb11, ji_0, ji_1, em_r, nn_r, Nat.add_sub_cancel, Nat.add_one_sub_one, add_neg1, nc_sub1, mU_same, mU_skip, hz', h0]
      rw [if_neg (by omega)]
      exact ⟨rfl, m', rfl, hm⟩
  · rw [hI]
    exact ⟨by omega, [], _, _, rfl, rfl, fun c hc => mU_ne hc, by rw [List.drop_zero]; exact hok, by rw [List.drop_zero], fun k hk => absurd hk (Nat.not_lt_zero k), by simp⟩
end C2
