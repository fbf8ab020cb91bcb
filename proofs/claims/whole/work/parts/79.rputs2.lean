/-! THE REFERENCE: a law put in place -/
set_option maxRecDepth 100000 in
set_option maxHeartbeats 1500000 in
theorem lineF_adv2 {ty : Nat → Nat} {tn i n : Nat} {L : List (Nat × Nat)} (hi : i ≤ tn) {i' : Nat} {L' : List (Nat × Nat)} {q : wLn} (h : lineF ty tn i n L = .ok (i', L', q)) : i' ≤ tn ∧ i < i' ∧ L'.length + i ≤ L.length + i' ∧ n ≠ 16 := by
  unfold lineF at h
  by_cases c1 : 20 ≤ tkM ty tn 1 i ∧ tkM ty tn 1 i ≤ 22
  · rw [if_pos c1] at h
    by_cases c2 : n = 16
    · rw [if_pos c2] at h; cases h
    · rw [if_neg c2] at h
      have hn := tk_next (ty := ty) (tn := tn) (mode := 1) (i := i) (by omega) hi
      cases h1 : sumF ty tn (nextM ty tn i) L with
      | error q => rw [h1] at h; cases h
      | ok q1 =>
        obtain ⟨i1, L1⟩ := q1
        have a1 := sumF_adv hn.2 _ _ h1
        rw [h1] at h
        dsimp only at h
        cases h2 : whenF ty tn i1 L1 with
        | error q => rw [h2] at h; cases h
        | ok q2 =>
          obtain ⟨i2, L2⟩ := q2
          have a2 := whenF_adv a1.1 _ _ h2
          rw [h2] at h
          dsimp only at h
          by_cases c3 : tkM ty tn 1 i2 = 159
          · rw [if_pos c3] at h
            have hn2 := tk_next (ty := ty) (tn := tn) (mode := 1) (i := i2) (by omega) a2.1
            cases h
            exact ⟨hn2.2, by omega, by omega, c2⟩
          · rw [if_neg c3] at h; cases h
  · rw [if_neg c1] at h; cases h
set_option maxRecDepth 100000 in
set_option maxHeartbeats 1500000 in
theorem lawF_len {ty : Nat → Nat} {tn : Nat} : ∀ (f i : Nat) (Ls : List wLn) (L : List (Nat × Nat)) {Ls' : List wLn} {L' : List (Nat × Nat)}, i ≤ tn → Ls.length ≤ 16 → L.length ≤ i → lawF ty tn f i Ls L = .ok (Ls', L') → Ls'.length ≤ 16 ∧ L'.length ≤ tn
  | 0, i, Ls, L, Ls', L', hi, h16, hl, h => by
    cases h
    exact ⟨h16, by omega⟩
  | f + 1, i, Ls, L, Ls', L', hi, h16, hl, h => by
    rw [lawF] at h
    by_cases c1 : tkM ty tn 1 i = 0
    · rw [if_pos c1] at h
      cases h
      exact ⟨h16, by omega⟩
    · rw [if_neg c1] at h
      cases hr : lineF ty tn i Ls.length L with
      | error q => rw [hr] at h; cases h
      | ok q =>
        obtain ⟨i2, L2, q⟩ := q
        rw [hr] at h
        have a := lineF_adv2 hi hr
        exact lawF_len f i2 (Ls ++ [q]) L2 a.1 (by rw [List.length_append, List.length_singleton]; omega) (by omega) h
set_option maxRecDepth 100000 in
set_option maxHeartbeats 1500000 in
theorem lineW_s {Ls : List wLn} {n : Nat} {s : wSg} (hn : n < 16) (k : Nat) : lineW Ls (n + 1) s k = if k = 1602 + n then (Ls.getD n (0, 0, 0, 0)).2.2.2 else if k = 1586 + n then (Ls.getD n (0, 0, 0, 0)).2.2.1 else if k = 1570 + n then (Ls.getD n (0, 0, 0, 0)).2.1 else if k = 1554 + n then (Ls.getD n (0, 0, 0, 0)).1 else lineW Ls n s k := by
  unfold lineW
  by_cases c1 : k = 1602 + n
  · rw [if_pos c1, c1, if_neg (by omega), if_neg (by omega), if_neg (by omega), if_pos (by omega), Nat.add_sub_cancel_left]
  · rw [if_neg c1]
    by_cases c2 : k = 1586 + n
    · rw [if_pos c2, c2, if_neg (by omega), if_neg (by omega), if_pos (by omega), Nat.add_sub_cancel_left]
    · rw [if_neg c2]
      by_cases c3 : k = 1570 + n
      · rw [if_pos c3, c3, if_neg (by omega), if_pos (by omega), Nat.add_sub_cancel_left]
      · rw [if_neg c3]
        by_cases c4 : k = 1554 + n
        · rw [if_pos c4, c4, if_pos (by omega), Nat.add_sub_cancel_left]
        · rw [if_neg c4]
          (repeat' split) <;> first | rfl | omega
set_option maxRecDepth 100000 in
set_option maxHeartbeats 1500000 in
theorem lineW_0 {Ls : List wLn} {s : wSg} (k : Nat) : lineW Ls 0 s k = s k := by
  unfold lineW
  rw [if_neg (by omega), if_neg (by omega), if_neg (by omega), if_neg (by omega)]
/-- numbers as laid down: a name's is free -/
def VOK (L : List (Nat × Nat)) (v : Nat → Nat) : Prop := ∀ k, k < L.length → v k ≤ 9999 ∧ ((L.getD k (0, 0)).1 = 0 ∨ (L.getD k (0, 0)).1 = 26 → v k = (L.getD k (0, 0)).2)
section RP2
variable (K : Nat) (e : Nat → Nat) {m : wMm} {s : wSg}
set_option maxRecDepth 100000 in
set_option maxHeartbeats 1500000 in
theorem r_putsLaw {Ls : List wLn} {L : List (Nat × Nat)} (hR : RW s m) (hLs : LineT m Ls) (hL : LayT m L) (h16 : Ls.length ≤ 16) (h400 : L.length ≤ 400) (hK : 16777216 ≤ K) : ∃ v, VOK L v ∧ PM (nX12_putsLaw K SH) [.ref 119] (m, RF e) (PV m e (lawW Ls L v s) (some (.int (J Ls.length)))) := by
  obtain ⟨v, hv1, hv2⟩ : ∃ v : Nat → Nat, VOK L v ∧ ∀ k, k < L.length → m 125 (2 * k + 1) = J (v k) := by
    refine ⟨fun k => (m 125 (2 * k + 1)).toInt.toNat, fun k hk => ?_, fun k hk => ?_⟩
    · obtain ⟨v, h1, h2, h3, h4⟩ := hL.2 k hk
      have : (m 125 (2 * k + 1)).toInt.toNat = v := by rw [h3, J_toInt (by omega) (by omega)]; omega
      exact ⟨Nat.le_trans (Nat.le_of_eq this) h1, fun h => this.trans (h4 h)⟩
    · obtain ⟨v, h1, h2, h3, h4⟩ := hL.2 k hk
      have : (m 125 (2 * k + 1)).toInt.toNat = v := by rw [h3, J_toInt (by omega) (by omega)]; omega
      show _ = J (((m 125 (2 * k + 1)).toInt.toNat : Nat) : Int)
      rw [this, h3]
  refine ⟨v, hv1, ?_⟩
  have hstep : ∀ k, k < 2 * L.length → m 125 k = J (stepW L v k) := fun k hk => by
    unfold stepW
    by_cases c0 : k % 2 = 0
    · rw [if_pos c0]
      obtain ⟨_, _, h2, _⟩ := hL.2 (k / 2) (by omega)
      rw [show 2 * (k / 2) = k by omega] at h2
      exact h2
    · rw [if_neg c0]
      have h2 := hv2 (k / 2) (by omega)
      rw [show 2 * (k / 2) + 1 = k by omega] at h2
      exact h2
  have f16 := hLs.1
  have f17 := hL.1
  simp (disch := omega) only [nX12_putsLaw, bX12_putsLaw, wr_1, wr_2, wr_3, wr_4, wr_5, wr_6, wr_7, wr_8, wr_9, wr_10, wr_11, wr_12, wr_13, wr_14, wr_15, wr_16, wr_17, wr_18, wr_19, wr_20, wr_21, wr_22, wr_23, wr_24, wr_25, wr_26, wr_27, wr_28, wr_29, wr_30, wr_31, wr_32, wr_33, wr_34, wr_35, wr_36, wr_37, wr_38, wr_39, wr_40, wr_41, wr_42, wr_43, wr_44, wr_45, wr_46, wr_47, wr_48, wr_49, wr_50, wr_51, wr_52, wr_53, wr_54, wr_55, wr_56, wr_57, wr_58, wr_59, wr_60, wr_61, wr_62, wr_63, wr_64, wr_65, wr_66, wr_67, wr_68, wr_69, wr_70, wr_71, wr_72, wr_73, wr_74, wr_75, wr_76, wr_77, wr_78, wr_79, wr_80, wr_81, wr_82, wr_83, wr_84, wr_85, wr_86, wr_87, wr_88, wr_89, wr_90, wr_91, wr_92, wr_93, wr_94, wr_95, wr_96, wr_97, wr_98, wr_99, wr_100, wr_101, wr_102, wr_103, wr_104, wr_105, wr_106, wr_107, wr_108, wr_109, wr_110, wr_111, wr_112, wr_113, wr_114, wr_115, wr_116, wr_117, wr_118, wr_119, wr_120, wr_121, wr_den, wr_122, wr_123, wr_124, wr_125, wr_126, wr_127, wr_128, wr_129, wr_130, wr_131, wr_132, wr_133, wr_134, wr_135, wr_136, wr_137, wr_138, wr_139, wr_140, wr_141, wr_142, wr_143, wr_144, wr_145, wr_146, wr_147, wr_148, wr_149, wr_150, wr_151, wr_152, wr_153, wr_154, wr_155, wr_156, wr_157, wr_158, wr_159, wr_160, wr_161, wr_162, wr_163, wr_164, wr_165, wr_166, wr_167, wr_168, wr_169, wr_170, wr_171, wr_172, wr_173, wr_174, wr_175, wr_176, wr_177, wr_178, wr_179, wr_180, wr_181, wr_182, wr_183, wr_184, wr_185, wr_186, wr_187, wr_188, wr_189, wr_190, wr_191, wr_192, wr_193, wr_194, wr_195, wr_196, wr_197, wr_198, wr_199, wr_200, wr_201, wr_202, wr_203, wr_204, wr_205, wr_206, wsw_J, J_inj, wr_208, sh_0, sh_1, sh_2, sh_3, sh_4, sh_5, sh_6, sh_7, sh_8, sh_9, sh_10, sh_11, sh_12, sh_13, sh_14, sh_15, sh_16, sh_17, sh_18, sh_19, sh_20, sh_21, sh_22, sh_23, sh_24, sh_25, sh_26, sh_27, sh_28, sh_29, sh_30, sh_31, sh_32, sh_33, sh_34, sh_35, sh_36, sh_37, sh_38, sh_39, sh_40, sh_41, sh_42, sh_43, sh_44, sh_45, sh_46, sh_47, sh_48, sh_49, sh_50, sh_51, sh_52, sh_53, sh_54, sh_55, sh_56, sh_57, sh_58, sh_59, sh_60, sh_61, sh_62, sh_63, sh_64, sh_65, sh_66, sh_67, sh_68, sh_69, sh_70, sh_71, sh_72, sh_73, sh_74, sh_75, sh_76, sh_77, sh_78, sh_79, sh_80, sh_81, sh_82, sh_83, sh_84, sh_85, sh_86, sh_87, sh_88, sh_89, sh_90, sh_91, sh_92, sh_93, sh_94, sh_95, sh_96, sh_97, sh_98, sh_99, sh_100, sh_101, sh_102, sh_103, sh_104, sh_105, sh_106, sh_107, sh_108, sh_109, sh_110, sh_111, sh_112, sh_113, sh_114, sh_115, sh_116, sh_117, sh_118, sh_119, sh_120, sh_121, sh_122, sh_123, sh_124, sh_125, sh_126, sh_127, sh_128, sh_129, sh_130, sh_131, sh_132, sh_133, sh_134, sh_135, sh_136, sh_137, rf_0_0, rf_0_1, rf_0_2, rf_0_3, rf_0_4, rf_0_5, rf_0_6, rf_0_7, rf_0_8, rf_0_9, rf_0_10, rf_1_0, rf_1_2, rf_1_3, rf_1_4, rf_6_0, rf_6_1, rf_6_2, rf_6_3, rf_6_4, rf_6_5, rf_6_9, rf_6_10, rf_7_3, rf_7_4, rf_7_5, rf_7_6, rf_7_7, rf_12_0, rf_12_1, rf_15_1, rf_15_2, rf_15_3, rf_15_4, rf_15_5, rf_15_7, rf_22_1, rf_22_2, rf_22_3, rf_22_4, rf_27_1, rf_29_0, rf_31_7, rf_35_0, rf_35_1, rf_35_2, rf_35_3, rf_35_4, rf_35_5, rf_35_9, rf_35_10, rf_36_3, rf_36_4, rf_36_5, rf_36_6, rf_36_7, rf_41_0, rf_41_1, rf_44_1, rf_44_2, rf_44_3, rf_44_4, rf_44_5, rf_44_7, rf_51_1, rf_51_2, rf_51_3, rf_51_4, rf_56_1, rf_58_0, rf_60_7, rf_64_3, rf_64_4, rf_64_5, rf_64_6, rf_64_7, rf_69_0, rf_69_1, rf_72_1, rf_72_2, rf_72_3, rf_72_4, rf_72_5, rf_72_7, rf_79_1, rf_79_2, rf_79_3, rf_79_4, rf_84_1, rf_86_0, rf_86_1, rf_86_2, rf_86_3, rf_88_0, rf_88_1, rf_88_2, rf_92_0, rf_92_1, rf_92_2, rf_97_0, rf_97_1, rf_97_7, rf_97_8, rf_102_2, rf_102_3, rf_102_4, rf_107_7, rf_109_7, rf_111_7, rf_113_7, rf_115_7, rf_117_7, rf_119_0, rf_119_1, rf_119_2, rf_119_3, rf_119_6, rf_119_7, rf_119_8, rf_119_9, rf_119_10, rf_119_11, rf_119_12, rf_119_13, rf_119_14, rf_119_37, rf_119_38, rf_119_39, rf_119_40, rf_119_41, rf_e, kW2_0, kW_0, kW_1, kW_2, kW_3, kWc_ap, J_add, J_sub, J_mul, wc_eq, wc_ne, wc_lt, wc_ge, wc_gt, wc_le, b_true, b_not_true, J_in, J_nat, J_max, J_min, J_abs, J_div, J_rem, J_z, J_o, J_ltz, J_ite, wUI_mk, wUC_mk, wUR_mk, if_true, if_false, and_true, true_and, and_self, List.length_cons, List.length_nil, List.all_cons, List.all_nil, wIR, List.cons_append, List.nil_append, List.append_nil, Bool.and_self, Bool.and_true, Bool.true_and, Int32.reduceToInt, Nat.le_refl, Nat.sub_self, List.replicate_zero, List.reduceReplicate, not_false_eq_true, not_true_eq_false, reduceCtorEq, true_or, or_true, or_false, false_or, Int.toNat_natCast, Nat.reduceEqDiff, Nat.reduceAdd, Nat.reduceSub, Nat.reduceMul, Nat.reduceLeDiff, Nat.zero_add, Int.reduceToNat, Int.reduceAdd, Int.reduceSub, Int.reduceMul, Int.reduceNeg, Int.reduceLT, Int.reduceLE, Int.reduceEq, ↓reduceIte, decide_true, decide_false, Bool.not_true, Bool.not_false, Bool.false_eq_true, tn_add, tn_mul, tn_sub, wb_ne, wb_eq, jb01, jb00, jb11, ji_0, ji_1, em_r, nn_r, Nat.add_sub_cancel, Nat.add_one_sub_one, add_neg1, nc_sub1, mU_same, mU_skip, f16]
  unfold lawW
  have hR1 : RW (su s 212 Ls.length) (mU m 120 212 (J Ls.length)) := hR.set 212 Ls.length
  have hk1 : KW m (mU m 120 212 (J Ls.length)) := (KW.refl m).set
  generalize mU m 120 212 (J Ls.length) = m1 at *
  generalize su s 212 Ls.length = s1 at *
  obtain ⟨I, hI⟩ : ∃ I : Nat → wL → wS → Prop, I = fun x ls t => x ≤ Ls.length ∧ ls = [.ref 119, .int (J x)] ∧ ∃ m', t = (m', RF e) ∧ RW (lineW Ls x s1) m' ∧ KW m m' := ⟨_, rfl⟩
  refine PS_up 16 I (fun x ls t hv => ?_) (by omega) ?_
  · rw [hI] at hv
    obtain ⟨hx, rfl, m', rfl, hR', hk'⟩ := hv
    have g16 : m' 119 16 = J Ls.length := by rw [hk' 119 (by omega)]; exact f16
    have g17 : m' 119 17 = J L.length := by rw [hk' 119 (by omega)]; exact f17
    have g124 : m' 124 = m 124 := hk' 124 (by omega)
    by_cases q : x < Ls.length
    · obtain ⟨q1, q2, q3, q4⟩ := hLs.2 x q
      have hsu := lineW_s (Ls := Ls) (n := x) (s := s1) (by omega)
      generalize Ls.getD x (0, 0, 0, 0) = w at *
      simp (disch := omega) only [wr_1, wr_2, wr_3, wr_4, wr_5, wr_6, wr_7, wr_8, wr_9, wr_10, wr_11, wr_12, wr_13, wr_14, wr_15, wr_16, wr_17, wr_18, wr_19, wr_20, wr_21, wr_22, wr_23, wr_24, wr_25, wr_26, wr_27, wr_28, wr_29, wr_30, wr_31, wr_32, wr_33, wr_34, wr_35, wr_36, wr_37, wr_38, wr_39, wr_40, wr_41, wr_42, wr_43, wr_44, wr_45, wr_46, wr_47, wr_48, wr_49, wr_50, wr_51, wr_52, wr_53, wr_54, wr_55, wr_56, wr_57, wr_58, wr_59, wr_60, wr_61, wr_62, wr_63, wr_64, wr_65, wr_66, wr_67, wr_68, wr_69, wr_70, wr_71, wr_72, wr_73, wr_74, wr_75, wr_76, wr_77, wr_78, wr_79, wr_80, wr_81, wr_82, wr_83, wr_84, wr_85, wr_86, wr_87, wr_88, wr_89, wr_90, wr_91, wr_92, wr_93, wr_94, wr_95, wr_96, wr_97, wr_98, wr_99, wr_100, wr_101, wr_102, wr_103, wr_104, wr_105, wr_106, wr_107, wr_108, wr_109, wr_110, wr_111, wr_112, wr_113, wr_114, wr_115, wr_116, wr_117, wr_118, wr_119, wr_120, wr_121, wr_den, wr_122, wr_123, wr_124, wr_125, wr_126, wr_127, wr_128, wr_129, wr_130, wr_131, wr_132, wr_133, wr_134, wr_135, wr_136, wr_137, wr_138, wr_139, wr_140, wr_141, wr_142, wr_143, wr_144, wr_145, wr_146, wr_147, wr_148, wr_149, wr_150, wr_151, wr_152, wr_153, wr_154, wr_155, wr_156, wr_157, wr_158, wr_159, wr_160, wr_161, wr_162, wr_163, wr_164, wr_165, wr_166, wr_167, wr_168, wr_169, wr_170, wr_171, wr_172, wr_173, wr_174, wr_175, wr_176, wr_177, wr_178, wr_179, wr_180, wr_181, wr_182, wr_183, wr_184, wr_185, wr_186, wr_187, wr_188, wr_189, wr_190, wr_191, wr_192, wr_193, wr_194, wr_195, wr_196, wr_197, wr_198, wr_199, wr_200, wr_201, wr_202, wr_203, wr_204, wr_205, wr_206, wsw_J, J_inj, wr_208, sh_0, sh_1, sh_2, sh_3, sh_4, sh_5, sh_6, sh_7, sh_8, sh_9, sh_10, sh_11, sh_12, sh_13, sh_14, sh_15, sh_16, sh_17, sh_18, sh_19, sh_20, sh_21, sh_22, sh_23, sh_24, sh_25, sh_26, sh_27, sh_28, sh_29, sh_30, sh_31, sh_32, sh_33, sh_34, sh_35, sh_36, sh_37, sh_38, sh_39, sh_40, sh_41, sh_42, sh_43, sh_44, sh_45, sh_46, sh_47, sh_48, sh_49, sh_50, sh_51, sh_52, sh_53, sh_54, sh_55, sh_56, sh_57, sh_58, sh_59, sh_60, sh_61, sh_62, sh_63, sh_64, sh_65, sh_66, sh_67, sh_68, sh_69, sh_70, sh_71, sh_72, sh_73, sh_74, sh_75, sh_76, sh_77, sh_78, sh_79, sh_80, sh_81, sh_82, sh_83, sh_84, sh_85, sh_86, sh_87, sh_88, sh_89, sh_90, sh_91, sh_92, sh_93, sh_94, sh_95, sh_96, sh_97, sh_98, sh_99, sh_100, sh_101, sh_102, sh_103, sh_104, sh_105, sh_106, sh_107, sh_108, sh_109, sh_110, sh_111, sh_112, sh_113, sh_114, sh_115, sh_116, sh_117, sh_118, sh_119, sh_120, sh_121, sh_122, sh_123, sh_124, sh_125, sh_126, sh_127, sh_128, sh_129, sh_130, sh_131, sh_132, sh_133, sh_134, sh_135, sh_136, sh_137, rf_0_0, rf_0_1, rf_0_2, rf_0_3, rf_0_4, rf_0_5, rf_0_6, rf_0_7, rf_0_8, rf_0_9, rf_0_10, rf_1_0, rf_1_2, rf_1_3, rf_1_4, rf_6_0, rf_6_1, rf_6_2, rf_6_3, rf_6_4, rf_6_5, rf_6_9, rf_6_10, rf_7_3, rf_7_4, rf_7_5, rf_7_6, rf_7_7, rf_12_0, rf_12_1, rf_15_1, rf_15_2, rf_15_3, rf_15_4, rf_15_5, rf_15_7, rf_22_1, rf_22_2, rf_22_3, rf_22_4, rf_27_1, rf_29_0, rf_31_7, rf_35_0, rf_35_1, rf_35_2, rf_35_3, rf_35_4, rf_35_5, rf_35_9, rf_35_10, rf_36_3, rf_36_4, rf_36_5, rf_36_6, rf_36_7, rf_41_0, rf_41_1, rf_44_1, rf_44_2, rf_44_3, rf_44_4, rf_44_5, rf_44_7, rf_51_1, rf_51_2, rf_51_3, rf_51_4, rf_56_1, rf_58_0, rf_60_7, rf_64_3, rf_64_4, rf_64_5, rf_64_6, rf_64_7, rf_69_0, rf_69_1, rf_72_1, rf_72_2, rf_72_3, rf_72_4, rf_72_5, rf_72_7, rf_79_1, rf_79_2, rf_79_3, rf_79_4, rf_84_1, rf_86_0, rf_86_1, rf_86_2, rf_86_3, rf_88_0, rf_88_1, rf_88_2, rf_92_0, rf_92_1, rf_92_2, rf_97_0, rf_97_1, rf_97_7, rf_97_8, rf_102_2, rf_102_3, rf_102_4, rf_107_7, rf_109_7, rf_111_7, rf_113_7, rf_115_7, rf_117_7, rf_119_0, rf_119_1, rf_119_2, rf_119_3, rf_119_6, rf_119_7, rf_119_8, rf_119_9, rf_119_10, rf_119_11, rf_119_12, rf_119_13, rf_119_14, rf_119_37, rf_119_38, rf_119_39, rf_119_40, rf_119_41, rf_e, kW2_0, kW_0, kW_1, kW_2, kW_3, kWc_ap, J_add, J_sub, J_mul, wc_eq, wc_ne, wc_lt, wc_ge, wc_gt, wc_le, b_true, b_not_true, J_in, J_nat, J_max, J_min, J_abs, J_div, J_rem, J_z, J_o, J_ltz, J_ite, wUI_mk, wUC_mk, wUR_mk, if_true, if_false, and_true, true_and, and_self, List.length_cons, List.length_nil, List.all_cons, List.all_nil, wIR, List.cons_append, List.nil_append, List.append_nil, Bool.and_self, Bool.and_true, Bool.true_and, Int32.reduceToInt, Nat.le_refl, Nat.sub_self, List.replicate_zero, List.reduceReplicate, not_false_eq_true, not_true_eq_false, reduceCtorEq, true_or, or_true, or_false, false_or, Int.toNat_natCast, Nat.reduceEqDiff, Nat.reduceAdd, Nat.reduceSub, Nat.reduceMul, Nat.reduceLeDiff, Nat.zero_add, Int.reduceToNat, Int.reduceAdd, Int.reduceSub, Int.reduceMul, Int.reduceNeg, Int.reduceLT, Int.reduceLE, Int.reduceEq, ↓reduceIte, decide_true, decide_false, Bool.not_true, Bool.not_false, Bool.false_eq_true, tn_add, tn_mul, tn_sub, wb_ne, wb_eq, jb01, jb00, jb11, ji_0, ji_1, em_r, nn_r, Nat.add_sub_cancel, Nat.add_one_sub_one, add_neg1, nc_sub1, mU_same, mU_skip, g16, g124, q1, q2, q3, q4, if_pos (show (x : Int) < (Ls.length : Int) by omega)]
      refine ⟨by omega, ?_⟩
      rw [hI]
      exact ⟨by omega, rfl, _, rfl, (((hR'.put (1554 + x) w.1 rfl (fun k => rfl)).put (1570 + x) w.2.1 rfl (fun k => rfl)).put (1586 + x) w.2.2.1 rfl (fun k => rfl)).put (1602 + x) w.2.2.2 rfl hsu, hk'.set.set.set.set⟩
    · simp (disch := omega) only [wr_1, wr_2, wr_3, wr_4, wr_5, wr_6, wr_7, wr_8, wr_9, wr_10, wr_11, wr_12, wr_13, wr_14, wr_15, wr_16, wr_17, wr_18, wr_19, wr_20, wr_21, wr_22, wr_23, wr_24, wr_25, wr_26, wr_27, wr_28, wr_29, wr_30, wr_31, wr_32, wr_33, wr_34, wr_35, wr_36, wr_37, wr_38, wr_39, wr_40, wr_41, wr_42, wr_43, wr_44, wr_45, wr_46, wr_47, wr_48, wr_49, wr_50, wr_51, wr_52, wr_53, wr_54, wr_55, wr_56, wr_57, wr_58, wr_59, wr_60, wr_61, wr_62, wr_63, wr_64, wr_65, wr_66, wr_67, wr_68, wr_69, wr_70, wr_71, wr_72, wr_73, wr_74, wr_75, wr_76, wr_77, wr_78, wr_79, wr_80, wr_81, wr_82, wr_83, wr_84, wr_85, wr_86, wr_87, wr_88, wr_89, wr_90, wr_91, wr_92, wr_93, wr_94, wr_95, wr_96, wr_97, wr_98, wr_99, wr_100, wr_101, wr_102, wr_103, wr_104, wr_105, wr_106, wr_107, wr_108, wr_109, wr_110, wr_111, wr_112, wr_113, wr_114, wr_115, wr_116, wr_117, wr_118, wr_119, wr_120, wr_121, wr_den, wr_122, wr_123, wr_124, wr_125, wr_126, wr_127, wr_128, wr_129, wr_130, wr_131, wr_132, wr_133, wr_134, wr_135, wr_136, wr_137, wr_138, wr_139, wr_140, wr_141, wr_142, wr_143, wr_144, wr_145, wr_146, wr_147, wr_148, wr_149, wr_150, wr_151, wr_152, wr_153, wr_154, wr_155, wr_156, wr_157, wr_158, wr_159, wr_160, wr_161, wr_162, wr_163, wr_164, wr_165, wr_166, wr_167, wr_168, wr_169, wr_170, wr_171, wr_172, wr_173, wr_174, wr_175, wr_176, wr_177, wr_178, wr_179, wr_180, wr_181, wr_182, wr_183, wr_184, wr_185, wr_186, wr_187, wr_188, wr_189, wr_190, wr_191, wr_192, wr_193, wr_194, wr_195, wr_196, wr_197, wr_198, wr_199, wr_200, wr_201, wr_202, wr_203, wr_204, wr_205, wr_206, wsw_J, J_inj, wr_208, sh_0, sh_1, sh_2, sh_3, sh_4, sh_5, sh_6, sh_7, sh_8, sh_9, sh_10, sh_11, sh_12, sh_13, sh_14, sh_15, sh_16, sh_17, sh_18, sh_19, sh_20, sh_21, sh_22, sh_23, sh_24, sh_25, sh_26, sh_27, sh_28, sh_29, sh_30, sh_31, sh_32, sh_33, sh_34, sh_35, sh_36, sh_37, sh_38, sh_39, sh_40, sh_41, sh_42, sh_43, sh_44, sh_45, sh_46, sh_47, sh_48, sh_49, sh_50, sh_51, sh_52, sh_53, sh_54, sh_55, sh_56, sh_57, sh_58, sh_59, sh_60, sh_61, sh_62, sh_63, sh_64, sh_65, sh_66, sh_67, sh_68, sh_69, sh_70, sh_71, sh_72, sh_73, sh_74, sh_75, sh_76, sh_77, sh_78, sh_79, sh_80, sh_81, sh_82, sh_83, sh_84, sh_85, sh_86, sh_87, sh_88, sh_89, sh_90, sh_91, sh_92, sh_93, sh_94, sh_95, sh_96, sh_97, sh_98, sh_99, sh_100, sh_101, sh_102, sh_103, sh_104, sh_105, sh_106, sh_107, sh_108, sh_109, sh_110, sh_111, sh_112, sh_113, sh_114, sh_115, sh_116, sh_117, sh_118, sh_119, sh_120, sh_121, sh_122, sh_123, sh_124, sh_125, sh_126, sh_127, sh_128, sh_129, sh_130, sh_131, sh_132, sh_133, sh_134, sh_135, sh_136, sh_137, rf_0_0, rf_0_1, rf_0_2, rf_0_3, rf_0_4, rf_0_5, rf_0_6, rf_0_7, rf_0_8, rf_0_9, rf_0_10, rf_1_0, rf_1_2, rf_1_3, rf_1_4, rf_6_0, rf_6_1, rf_6_2, rf_6_3, rf_6_4, rf_6_5, rf_6_9, rf_6_10, rf_7_3, rf_7_4, rf_7_5, rf_7_6, rf_7_7, rf_12_0, rf_12_1, rf_15_1, rf_15_2, rf_15_3, rf_15_4, rf_15_5, rf_15_7, rf_22_1, rf_22_2, rf_22_3, rf_22_4, rf_27_1, rf_29_0, rf_31_7, rf_35_0, rf_35_1, rf_35_2, rf_35_3, rf_35_4, rf_35_5, rf_35_9, rf_35_10, rf_36_3, rf_36_4, rf_36_5, rf_36_6, rf_36_7, rf_41_0, rf_41_1, rf_44_1, rf_44_2, rf_44_3, rf_44_4, rf_44_5, rf_44_7, rf_51_1, rf_51_2, rf_51_3, rf_51_4, rf_56_1, rf_58_0, rf_60_7, rf_64_3, rf_64_4, rf_64_5, rf_64_6, rf_64_7, rf_69_0, rf_69_1, rf_72_1, rf_72_2, rf_72_3, rf_72_4, rf_72_5, rf_72_7, rf_79_1, rf_79_2, rf_79_3, rf_79_4, rf_84_1, rf_86_0, rf_86_1, rf_86_2, rf_86_3, rf_88_0, rf_88_1, rf_88_2, rf_92_0, rf_92_1, rf_92_2, rf_97_0, rf_97_1, rf_97_7, rf_97_8, rf_102_2, rf_102_3, rf_102_4, rf_107_7, rf_109_7, rf_111_7, rf_113_7, rf_115_7, rf_117_7, rf_119_0, rf_119_1, rf_119_2, rf_119_3, rf_119_6, rf_119_7, rf_119_8, rf_119_9, rf_119_10, rf_119_11, rf_119_12, rf_119_13, rf_119_14, rf_119_37, rf_119_38, rf_119_39, rf_119_40, rf_119_41, rf_e, kW2_0, kW_0, kW_1, kW_2, kW_3, kWc_ap, J_add, J_sub, J_mul, wc_eq, wc_ne, wc_lt, wc_ge, wc_gt, wc_le, b_true, b_not_true, J_in, J_nat, J_max, J_min, J_abs, J_div, J_rem, J_z, J_o, J_ltz, J_ite, wUI_mk, wUC_mk, wUR_mk, if_true, if_false, and_true, true_and, and_self, List.length_cons, List.length_nil, List.all_cons, List.all_nil, wIR, List.cons_append, List.nil_append, List.append_nil, Bool.and_self, Bool.and_true, Bool.true_and, Int32.reduceToInt, Nat.le_refl, Nat.sub_self, List.replicate_zero, List.reduceReplicate, not_false_eq_true, not_true_eq_false, reduceCtorEq, true_or, or_true, or_false, false_or, Int.toNat_natCast, Nat.reduceEqDiff, Nat.reduceAdd, Nat.reduceSub, Nat.reduceMul, Nat.reduceLeDiff, Nat.zero_add, Int.reduceToNat, Int.reduceAdd, Int.reduceSub, Int.reduceMul, Int.reduceNeg, Int.reduceLT, Int.reduceLE, Int.reduceEq, ↓reduceIte, decide_true, decide_false, Bool.not_true, Bool.not_false, Bool.false_eq_true, tn_add, tn_mul, tn_sub, wb_ne, wb_eq, jb01, jb00, jb11, ji_0, ji_1, em_r, nn_r, Nat.add_sub_cancel, Nat.add_one_sub_one, add_neg1, nc_sub1, mU_same, mU_skip, g16, if_neg (show ¬ (x : Int) < (Ls.length : Int) by omega)]
      have hx2 : x = Ls.length := by omega
      rw [hx2] at hR'
      clear hI I
      generalize lineW Ls Ls.length s1 = s2 at *
      obtain ⟨I, hI⟩ : ∃ I : Nat → wL → wS → Prop, I = fun x ls t => x ≤ 2 * L.length ∧ ls = [.ref 119, .int (J x)] ∧ ∃ m', t = (m', RF e) ∧ RW (copW s2 1620 x (stepW L v)) m' ∧ KW m m' := ⟨_, rfl⟩
      refine PS_up 800 I (fun y ls t hv => ?_) (by omega) ?_
      · rw [hI] at hv
        obtain ⟨hy, rfl, m2, rfl, hR2, hk2⟩ := hv
        have e16 : m2 119 16 = J Ls.length := by rw [hk2 119 (by omega)]; exact f16
        have e17 : m2 119 17 = J L.length := by rw [hk2 119 (by omega)]; exact f17
        have e125 : m2 125 = m 125 := hk2 125 (by omega)
        simp (disch := omega) only [wr_1, wr_2, wr_3, wr_4, wr_5, wr_6, wr_7, wr_8, wr_9, wr_10, wr_11, wr_12, wr_13, wr_14, wr_15, wr_16, wr_17, wr_18, wr_19, wr_20, wr_21, wr_22, wr_23, wr_24, wr_25, wr_26, wr_27, wr_28, wr_29, wr_30, wr_31, wr_32, wr_33, wr_34, wr_35, wr_36, wr_37, wr_38, wr_39, wr_40, wr_41, wr_42, wr_43, wr_44, wr_45, wr_46, wr_47, wr_48, wr_49, wr_50, wr_51, wr_52, wr_53, wr_54, wr_55, wr_56, wr_57, wr_58, wr_59, wr_60, wr_61, wr_62, wr_63, wr_64, wr_65, wr_66, wr_67, wr_68, wr_69, wr_70, wr_71, wr_72, wr_73, wr_74, wr_75, wr_76, wr_77, wr_78, wr_79, wr_80, wr_81, wr_82, wr_83, wr_84, wr_85, wr_86, wr_87, wr_88, wr_89, wr_90, wr_91, wr_92, wr_93, wr_94, wr_95, wr_96, wr_97, wr_98, wr_99, wr_100, wr_101, wr_102, wr_103, wr_104, wr_105, wr_106, wr_107, wr_108, wr_109, wr_110, wr_111, wr_112, wr_113, wr_114, wr_115, wr_116, wr_117, wr_118, wr_119, wr_120, wr_121, wr_den, wr_122, wr_123, wr_124, wr_125, wr_126, wr_127, wr_128, wr_129, wr_130, wr_131, wr_132, wr_133, wr_134, wr_135, wr_136, wr_137, wr_138, wr_139, wr_140, wr_141, wr_142, wr_143, wr_144, wr_145, wr_146, wr_147, wr_148, wr_149, wr_150, wr_151, wr_152, wr_153, wr_154, wr_155, wr_156, wr_157, wr_158, wr_159, wr_160, wr_161, wr_162, wr_163, wr_164, wr_165, wr_166, wr_167, wr_168, wr_169, wr_170, wr_171, wr_172, wr_173, wr_174, wr_175, wr_176, wr_177, wr_178, wr_179, wr_180, wr_181, wr_182, wr_183, wr_184, wr_185, wr_186, wr_187, wr_188, wr_189, wr_190, wr_191, wr_192, wr_193, wr_194, wr_195, wr_196, wr_197, wr_198, wr_199, wr_200, wr_201, wr_202, wr_203, wr_204, wr_205, wr_206, wsw_J, J_inj, wr_208, sh_0, sh_1, sh_2, sh_3, sh_4, sh_5, sh_6, sh_7, sh_8, sh_9, sh_10, sh_11, sh_12, sh_13, sh_14, sh_15, sh_16, sh_17, sh_18, sh_19, sh_20, sh_21, sh_22, sh_23, sh_24, sh_25, sh_26, sh_27, sh_28, sh_29, sh_30, sh_31, sh_32, sh_33, sh_34, sh_35, sh_36, sh_37, sh_38, sh_39, sh_40, sh_41, sh_42, sh_43, sh_44, sh_45, sh_46, sh_47, sh_48, sh_49, sh_50, sh_51, sh_52, sh_53, sh_54, sh_55, sh_56, sh_57, sh_58, sh_59, sh_60, sh_61, sh_62, sh_63, sh_64, sh_65, sh_66, sh_67, sh_68, sh_69, sh_70, sh_71, sh_72, sh_73, sh_74, sh_75, sh_76, sh_77, sh_78, sh_79, sh_80, sh_81, sh_82, sh_83, sh_84, sh_85, sh_86, sh_87, sh_88, sh_89, sh_90, sh_91, sh_92, sh_93, sh_94, sh_95, sh_96, sh_97, sh_98, sh_99, sh_100, sh_101, sh_102, sh_103, sh_104, sh_105, sh_106, sh_107, sh_108, sh_109, sh_110, sh_111, sh_112, sh_113, sh_114, sh_115, sh_116, sh_117, sh_118, sh_119, sh_120, sh_121, sh_122, sh_123, sh_124, sh_125, sh_126, sh_127, sh_128, sh_129, sh_130, sh_131, sh_132, sh_133, sh_134, sh_135, sh_136, sh_137, rf_0_0, rf_0_1, rf_0_2, rf_0_3, rf_0_4, rf_0_5, rf_0_6, rf_0_7, rf_0_8, rf_0_9, rf_0_10, rf_1_0, rf_1_2, rf_1_3, rf_1_4, rf_6_0, rf_6_1, rf_6_2, rf_6_3, rf_6_4, rf_6_5, rf_6_9, rf_6_10, rf_7_3, rf_7_4, rf_7_5, rf_7_6, rf_7_7, rf_12_0, rf_12_1, rf_15_1, rf_15_2, rf_15_3, rf_15_4, rf_15_5, rf_15_7, rf_22_1, rf_22_2, rf_22_3, rf_22_4, rf_27_1, rf_29_0, rf_31_7, rf_35_0, rf_35_1, rf_35_2, rf_35_3, rf_35_4, rf_35_5, rf_35_9, rf_35_10, rf_36_3, rf_36_4, rf_36_5, rf_36_6, rf_36_7, rf_41_0, rf_41_1, rf_44_1, rf_44_2, rf_44_3, rf_44_4, rf_44_5, rf_44_7, rf_51_1, rf_51_2, rf_51_3, rf_51_4, rf_56_1, rf_58_0, rf_60_7, rf_64_3, rf_64_4, rf_64_5, rf_64_6, rf_64_7, rf_69_0, rf_69_1, rf_72_1, rf_72_2, rf_72_3, rf_72_4, rf_72_5, rf_72_7, rf_79_1, rf_79_2, rf_79_3, rf_79_4, rf_84_1, rf_86_0, rf_86_1, rf_86_2, rf_86_3, rf_88_0, rf_88_1, rf_88_2, rf_92_0, rf_92_1, rf_92_2, rf_97_0, rf_97_1, rf_97_7, rf_97_8, rf_102_2, rf_102_3, rf_102_4, rf_107_7, rf_109_7, rf_111_7, rf_113_7, rf_115_7, rf_117_7, rf_119_0, rf_119_1, rf_119_2, rf_119_3, rf_119_6, rf_119_7, rf_119_8, rf_119_9, rf_119_10, rf_119_11, rf_119_12, rf_119_13, rf_119_14, rf_119_37, rf_119_38, rf_119_39, rf_119_40, rf_119_41, rf_e, kW2_0, kW_0, kW_1, kW_2, kW_3, kWc_ap, J_add, J_sub, J_mul, wc_eq, wc_ne, wc_lt, wc_ge, wc_gt, wc_le, b_true, b_not_true, J_in, J_nat, J_max, J_min, J_abs, J_div, J_rem, J_z, J_o, J_ltz, J_ite, wUI_mk, wUC_mk, wUR_mk, if_true, if_false, and_true, true_and, and_self, List.length_cons, List.length_nil, List.all_cons, List.all_nil, wIR, List.cons_append, List.nil_append, List.append_nil, Bool.and_self, Bool.and_true, Bool.true_and, Int32.reduceToInt, Nat.le_refl, Nat.sub_self, List.replicate_zero, List.reduceReplicate, not_false_eq_true, not_true_eq_false, reduceCtorEq, true_or, or_true, or_false, false_or, Int.toNat_natCast, Nat.reduceEqDiff, Nat.reduceAdd, Nat.reduceSub, Nat.reduceMul, Nat.reduceLeDiff, Nat.zero_add, Int.reduceToNat, Int.reduceAdd, Int.reduceSub, Int.reduceMul, Int.reduceNeg, Int.reduceLT, Int.reduceLE, Int.reduceEq, ↓reduceIte, decide_true, decide_false, Bool.not_true, Bool.not_false, Bool.false_eq_true, tn_add, tn_mul, tn_sub, wb_ne, wb_eq, jb01, jb00, jb11, ji_0, ji_1, em_r, nn_r, Nat.add_sub_cancel, Nat.add_one_sub_one, add_neg1, nc_sub1, mU_same, mU_skip, e16, e17, e125]
        refine iteI (fun q => ⟨by omega, ?_⟩) (fun q => ?_)
        · rw [hI]
          exact ⟨by omega, rfl, _, rfl, hR2.put (1620 + y) (stepW L v y) (hstep y (by omega)) (fun k => copW_s s2), hk2.set⟩
        · have hy2 : y = 2 * L.length := by omega
          rw [hy2] at hR2
          exact ⟨rfl, m2, rfl, hR2, hk2⟩
      · rw [hI]
        exact ⟨by omega, rfl, m', rfl, hR'.mk (fun k => copW_0 _ _ _ k), hk'⟩
  · rw [hI]
    exact ⟨by omega, rfl, m1, rfl, hR1.mk (fun k => lineW_0 k), hk1⟩
set_option maxRecDepth 100000 in
set_option maxHeartbeats 1500000 in
theorem numS_ok {α : Type} {ty : Nat → Nat} {tn sn i : Nat} {k : Nat → Nat → wXR α} {a : α} (h : numS ty tn sn i k = .ok a) : numM ty tn i < sn ∧ k (nextM ty tn i) (numM ty tn i) = .ok a := by
  unfold numS at h
  by_cases c : kindM ty tn i = 200
  · rw [if_pos c] at h
    by_cases c2 : numM ty tn i < sn
    · rw [if_pos c2] at h
      exact ⟨c2, h⟩
    · rw [if_neg c2] at h; cases h
  · rw [if_neg c] at h; cases h
set_option maxRecDepth 100000 in
set_option maxHeartbeats 1500000 in
theorem numX_ok {α : Type} {ty : Nat → Nat} {tn x y i : Nat} {k : Nat → Nat → wXR α} {a : α} (h : numX ty tn x y i k = .ok a) : x ≤ numM ty tn i ∧ numM ty tn i ≤ y ∧ kindM ty tn i = 200 ∧ k (nextM ty tn i) (numM ty tn i) = .ok a := by
  unfold numX at h
  by_cases c : kindM ty tn i = 200
  · rw [if_pos c] at h
    by_cases c2 : x ≤ numM ty tn i ∧ numM ty tn i ≤ y
    · rw [if_pos c2] at h
      exact ⟨c2.1, c2.2, c, h⟩
    · rw [if_neg c2] at h; cases h
  · rw [if_neg c] at h; cases h
set_option maxRecDepth 100000 in
set_option maxHeartbeats 1500000 in
theorem needX_ok {α : Type} {ty : Nat → Nat} {tn mode t i : Nat} {k : Nat → wXR α} {a : α} (h : needX ty tn mode t i k = .ok a) : tkM ty tn mode i = t ∧ k (nextM ty tn i) = .ok a := by
  unfold needX at h
  by_cases c : tkM ty tn mode i = t
  · rw [if_pos c] at h
    exact ⟨c, h⟩
  · rw [if_neg c] at h; cases h
set_option maxRecDepth 100000 in
set_option maxHeartbeats 1500000 in
theorem oneA_in {ty : Nat → Nat} {tn sn r i : Nat} {q : Nat × wRo} (h : oneA ty tn sn r i = .ok q) : q.2.1 < sn ∧ q.2.2.1 < sn ∧ q.2.2.2 ≤ 99 := by
  unfold oneA at h
  by_cases c1 : tkM ty tn 3 i = 15
  · rw [if_pos c1] at h
    by_cases c2 : r = 16
    · rw [if_pos c2] at h; cases h
    · rw [if_neg c2] at h
      obtain ⟨h1, h⟩ := numS_ok h
      by_cases c3 : kindM ty tn (nextM ty tn (nextM ty tn i)) = 200 ∧ numM ty tn (nextM ty tn (nextM ty tn i)) = numM ty tn (nextM ty tn i)
      · rw [if_pos c3] at h; cases h
      · rw [if_neg c3] at h
        obtain ⟨h2, h⟩ := numS_ok h
        obtain ⟨_, h⟩ := needX_ok h
        obtain ⟨_, h3, _, h⟩ := numX_ok h
        obtain ⟨_, h⟩ := needX_ok h
        cases h
        exact ⟨h1, h2, h3⟩
  · rw [if_neg c1] at h; cases h
set_option maxRecDepth 100000 in
set_option maxHeartbeats 1500000 in
theorem aftF_in {ty : Nat → Nat} {tn sn : Nat} : ∀ (f i : Nat) (R : List wRo) {R' : List wRo}, (∀ k, k < R.length → (R.getD k (0, 0, 0)).1 < sn ∧ (R.getD k (0, 0, 0)).2.1 < sn ∧ (R.getD k (0, 0, 0)).2.2 ≤ 99) → aftF ty tn sn f i R = .ok R' → ∀ k, k < R'.length → (R'.getD k (0, 0, 0)).1 < sn ∧ (R'.getD k (0, 0, 0)).2.1 < sn ∧ (R'.getD k (0, 0, 0)).2.2 ≤ 99
  | 0, i, R, R', hR, h => by
    cases h
    exact hR
  | f + 1, i, R, R', hR, h => by
    rw [aftF] at h
    by_cases c1 : tkM ty tn 3 i = 0
    · rw [if_pos c1] at h
      cases h
      exact hR
    · rw [if_neg c1] at h
      obtain ⟨q, h1, h2⟩ := bindR_ok h
      have hq := oneA_in h1
      refine aftF_in f q.1 (R ++ [q.2]) (fun k hk => ?_) h2
      rw [List.length_append, List.length_singleton] at hk
      by_cases c : k = R.length
      · rw [c, getD_ro_r]; exact hq
      · rw [getD_ro_l (by omega)]; exact hR k (by omega)
end RP2
