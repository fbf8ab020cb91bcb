/-! THE CLASS: a text -/
set_option maxRecDepth 100000 in
set_option maxHeartbeats 1500000 in
theorem ClS.rd {st : Nat} {s ks : wSg} {Bs : List wSg} {img : Bool} {e : Nat → Nat} {m m' : wMm} (h : ClS st s ks Bs img e m) (k : ∀ c, c = 0 ∨ (6 ≤ c ∧ c ≤ 63) ∨ (86 ≤ c ∧ c < 119) → m' c = m c) : ClS st s ks Bs img e m' := by
  obtain ⟨a1, a2, a3, a4, a5, a6, a7⟩ := h
  refine ⟨a1.o (fun c h1 h2 _ => k c (by omega)), ⟨a2.1, by rw [k 0 (by omega)]; exact a2.2.1, fun j hj => ?_⟩, a3, by rw [k 0 (by omega)]; exact a4, fun hi => (a5 hi).o (fun c h1 h2 _ => k c (by omega)), by rw [k 86 (by omega)]; exact a6, a7.o (fun c h1 h2 => k c (by omega))⟩
  have h6 := a2.1
  obtain ⟨d0, _⟩ := a3.cell (k := j) (by omega) e
  exact (a2.2.2 j hj).o (fun c h1 h2 => k c (by omega))
section C45
variable (K : Nat) {e : Nat → Nat} {m : wMm} {s : wSg}
set_option maxRecDepth 100000 in
set_option maxHeartbeats 1500000 in
theorem c_takeTape {B : Nat} {ts : wTs} (hD : DkK 6 s m) (hG : gOK B s) (hT : TsF ts) (hS : SdK 64 (tapeW ts s) m) (hK : 16777216 ≤ K) : PM (nX2_takeTape K SH) [.ref 6, .ref 64] (m, RF e) (fun r u => r = none ∧ ∃ m' : wMm, u = (m', RF e) ∧ DkK 6 (tapeW ts s) m' ∧ ∀ c, ¬ (7 ≤ c ∧ c ≤ 32) → m' c = m c) := by
  have i2 := hT.1.2.1
  have hG2 := gOK_tape hG hT
  have ho := fun k hk => tw_o ts s i2 (k := k) hk
  obtain ⟨z0, z1, z2, z3, z4, z13, z14, z7, zk⟩ := tw_0 ts s
  obtain ⟨h1, h2, h3, h4, h5, h6, h7⟩ := hD
  simp (disch := omega) only [nX2_takeTape, bX2_takeTape, wr_1, wr_2, wr_3, wr_4, wr_5, wr_6, wr_7, wr_8, wr_9, wr_10, wr_11, wr_12, wr_13, wr_14, wr_15, wr_16, wr_17, wr_18, wr_19, wr_20, wr_21, wr_22, wr_23, wr_24, wr_25, wr_26, wr_27, wr_28, wr_29, wr_30, wr_31, wr_32, wr_33, wr_34, wr_35, wr_36, wr_37, wr_38, wr_39, wr_40, wr_41, wr_42, wr_43, wr_44, wr_45, wr_46, wr_47, wr_48, wr_49, wr_50, wr_51, wr_52, wr_53, wr_54, wr_55, wr_56, wr_57, wr_58, wr_59, wr_60, wr_61, wr_62, wr_63, wr_64, wr_65, wr_66, wr_67, wr_68, wr_69, wr_70, wr_71, wr_72, wr_73, wr_74, wr_75, wr_76, wr_77, wr_78, wr_79, wr_80, wr_81, wr_82, wr_83, wr_84, wr_85, wr_86, wr_87, wr_88, wr_89, wr_90, wr_91, wr_92, wr_93, wr_94, wr_95, wr_96, wr_97, wr_98, wr_99, wr_100, wr_101, wr_102, wr_103, wr_104, wr_105, wr_106, wr_107, wr_108, wr_109, wr_110, wr_111, wr_112, wr_113, wr_114, wr_115, wr_116, wr_117, wr_118, wr_119, wr_120, wr_121, wr_den, wr_122, wr_123, wr_124, wr_125, wr_126, wr_127, wr_128, wr_129, wr_130, wr_131, wr_132, wr_133, wr_134, wr_135, wr_136, wr_137, wr_138, wr_139, wr_140, wr_141, wr_142, wr_143, wr_144, wr_145, wr_146, wr_147, wr_148, wr_149, wr_150, wr_151, wr_152, wr_153, wr_154, wr_155, wr_156, wr_157, wr_158, wr_159, wr_160, wr_161, wr_162, wr_163, wr_164, wr_165, wr_166, wr_167, wr_168, wr_169, wr_170, wr_171, wr_172, wr_173, wr_174, wr_175, wr_176, wr_177, wr_178, wr_179, wr_180, wr_181, wr_182, wr_183, wr_184, wr_185, wr_186, wr_187, wr_188, wr_189, wr_190, wr_191, wr_192, wr_193, wr_194, wr_195, wr_196, wr_197, wr_198, wr_199, wr_200, wr_201, wr_202, wr_203, wr_204, wr_205, wr_206, wsw_J, J_inj, wr_208, sh_0, sh_1, sh_2, sh_3, sh_4, sh_5, sh_6, sh_7, sh_8, sh_9, sh_10, sh_11, sh_12, sh_13, sh_14, sh_15, sh_16, sh_17, sh_18, sh_19, sh_20, sh_21, sh_22, sh_23, sh_24, sh_25, sh_26, sh_27, sh_28, sh_29, sh_30, sh_31, sh_32, sh_33, sh_34, sh_35, sh_36, sh_37, sh_38, sh_39, sh_40, sh_41, sh_42, sh_43, sh_44, sh_45, sh_46, sh_47, sh_48, sh_49, sh_50, sh_51, sh_52, sh_53, sh_54, sh_55, sh_56, sh_57, sh_58, sh_59, sh_60, sh_61, sh_62, sh_63, sh_64, sh_65, sh_66, sh_67, sh_68, sh_69, sh_70, sh_71, sh_72, sh_73, sh_74, sh_75, sh_76, sh_77, sh_78, sh_79, sh_80, sh_81, sh_82, sh_83, sh_84, sh_85, sh_86, sh_87, sh_88, sh_89, sh_90, sh_91, sh_92, sh_93, sh_94, sh_95, sh_96, sh_97, sh_98, sh_99, sh_100, sh_101, sh_102, sh_103, sh_104, sh_105, sh_106, sh_107, sh_108, sh_109, sh_110, sh_111, sh_112, sh_113, sh_114, sh_115, sh_116, sh_117, sh_118, sh_119, sh_120, sh_121, sh_122, sh_123, sh_124, sh_125, sh_126, sh_127, sh_128, sh_129, sh_130, sh_131, sh_132, sh_133, sh_134, sh_135, sh_136, sh_137, rf_0_0, rf_0_1, rf_0_2, rf_0_3, rf_0_4, rf_0_5, rf_0_6, rf_0_7, rf_0_8, rf_0_9, rf_0_10, rf_1_0, rf_1_2, rf_1_3, rf_1_4, rf_6_0, rf_6_1, rf_6_2, rf_6_3, rf_6_4, rf_6_5, rf_6_9, rf_6_10, rf_7_3, rf_7_4, rf_7_5, rf_7_6, rf_7_7, rf_12_0, rf_12_1, rf_15_1, rf_15_2, rf_15_3, rf_15_4, rf_15_5, rf_15_7, rf_22_1, rf_22_2, rf_22_3, rf_22_4, rf_27_1, rf_29_0, rf_31_7, rf_35_0, rf_35_1, rf_35_2, rf_35_3, rf_35_4, rf_35_5, rf_35_9, rf_35_10, rf_36_3, rf_36_4, rf_36_5, rf_36_6, rf_36_7, rf_41_0, rf_41_1, rf_44_1, rf_44_2, rf_44_3, rf_44_4, rf_44_5, rf_44_7, rf_51_1, rf_51_2, rf_51_3, rf_51_4, rf_56_1, rf_58_0, rf_60_7, rf_64_3, rf_64_4, rf_64_5, rf_64_6, rf_64_7, rf_69_0, rf_69_1, rf_72_1, rf_72_2, rf_72_3, rf_72_4, rf_72_5, rf_72_7, rf_79_1, rf_79_2, rf_79_3, rf_79_4, rf_84_1, rf_86_0, rf_86_1, rf_86_2, rf_86_3, rf_88_0, rf_88_1, rf_88_2, rf_92_0, rf_92_1, rf_92_2, rf_97_0, rf_97_1, rf_97_7, rf_97_8, rf_102_2, rf_102_3, rf_102_4, rf_107_7, rf_109_7, rf_111_7, rf_113_7, rf_115_7, rf_117_7, rf_119_0, rf_119_1, rf_119_2, rf_119_3, rf_119_6, rf_119_7, rf_119_8, rf_119_9, rf_119_10, rf_119_11, rf_119_12, rf_119_13, rf_119_14, rf_119_37, rf_119_38, rf_119_39, rf_119_40, rf_119_41, rf_e, kW2_0, kW_0, kW_1, kW_2, kW_3, kWc_ap, J_add, J_sub, J_mul, wc_eq, wc_ne, wc_lt, wc_ge, wc_gt, wc_le, b_true, b_not_true, J_in, J_nat, J_max, J_min, J_abs, J_div, J_rem, J_z, J_o, J_ltz, J_ite, wUI_mk, wUC_mk, wUR_mk, if_true, if_false, and_true, true_and, and_self, List.length_cons, List.length_nil, List.all_cons, List.all_nil, wIR, List.cons_append, List.nil_append, List.append_nil, Bool.and_self, Bool.and_true, Bool.true_and, Int32.reduceToInt, Nat.le_refl, Nat.sub_self, List.replicate_zero, List.reduceReplicate, not_false_eq_true, not_true_eq_false, reduceCtorEq, true_or, or_true, or_false, false_or, Int.toNat_natCast, Nat.reduceEqDiff, Nat.reduceAdd, Nat.reduceSub, Nat.reduceMul, Nat.reduceLeDiff, Nat.zero_add, Int.reduceToNat, Int.reduceAdd, Int.reduceSub, Int.reduceMul, Int.reduceNeg, Int.reduceLT, Int.reduceLE, Int.reduceEq, ↓reduceIte, decide_true, decide_false, Bool.not_true, Bool.not_false, Bool.false_eq_true, tn_add, tn_mul, tn_sub, wb_ne, wb_eq, jb01, jb00, jb11, ji_0, ji_1, em_r, nn_r, Nat.add_sub_cancel, Nat.add_one_sub_one, add_neg1, nc_sub1, mU_same, mU_skip]
  refine PM_mono (c_sdCopy_7_64 K e hS hG2.2.1.1 hG2.1.1.2.2.1) ?_
  rintro r u ⟨rfl, m1, rfl, g1, gk⟩
  have hfl := fun m Q => c_fill K (e := e) (m := m) Q (c := 32) (n := 201) rfl (by omega) 0 hK
  have hfl2 := fun m Q => c_fill K (e := e) (m := m) Q (c := 28) (n := 196) rfl (by omega) 0 hK
  simp (disch := omega) only [wr_1, wr_2, wr_3, wr_4, wr_5, wr_6, wr_7, wr_8, wr_9, wr_10, wr_11, wr_12, wr_13, wr_14, wr_15, wr_16, wr_17, wr_18, wr_19, wr_20, wr_21, wr_22, wr_23, wr_24, wr_25, wr_26, wr_27, wr_28, wr_29, wr_30, wr_31, wr_32, wr_33, wr_34, wr_35, wr_36, wr_37, wr_38, wr_39, wr_40, wr_41, wr_42, wr_43, wr_44, wr_45, wr_46, wr_47, wr_48, wr_49, wr_50, wr_51, wr_52, wr_53, wr_54, wr_55, wr_56, wr_57, wr_58, wr_59, wr_60, wr_61, wr_62, wr_63, wr_64, wr_65, wr_66, wr_67, wr_68, wr_69, wr_70, wr_71, wr_72, wr_73, wr_74, wr_75, wr_76, wr_77, wr_78, wr_79, wr_80, wr_81, wr_82, wr_83, wr_84, wr_85, wr_86, wr_87, wr_88, wr_89, wr_90, wr_91, wr_92, wr_93, wr_94, wr_95, wr_96, wr_97, wr_98, wr_99, wr_100, wr_101, wr_102, wr_103, wr_104, wr_105, wr_106, wr_107, wr_108, wr_109, wr_110, wr_111, wr_112, wr_113, wr_114, wr_115, wr_116, wr_117, wr_118, wr_119, wr_120, wr_121, wr_den, wr_122, wr_123, wr_124, wr_125, wr_126, wr_127, wr_128, wr_129, wr_130, wr_131, wr_132, wr_133, wr_134, wr_135, wr_136, wr_137, wr_138, wr_139, wr_140, wr_141, wr_142, wr_143, wr_144, wr_145, wr_146, wr_147, wr_148, wr_149, wr_150, wr_151, wr_152, wr_153, wr_154, wr_155, wr_156, wr_157, wr_158, wr_159, wr_160, wr_161, wr_162, wr_163, wr_164, wr_165, wr_166, wr_167, wr_168, wr_169, wr_170, wr_171, wr_172, wr_173, wr_174, wr_175, wr_176, wr_177, wr_178, wr_179, wr_180, wr_181, wr_182, wr_183, wr_184, wr_185, wr_186, wr_187, wr_188, wr_189, wr_190, wr_191, wr_192, wr_193, wr_194, wr_195, wr_196, wr_197, wr_198, wr_199, wr_200, wr_201, wr_202, wr_203, wr_204, wr_205, wr_206, wsw_J, J_inj, wr_208, sh_0, sh_1, sh_2, sh_3, sh_4, sh_5, sh_6, sh_7, sh_8, sh_9, sh_10, sh_11, sh_12, sh_13, sh_14, sh_15, sh_16, sh_17, sh_18, sh_19, sh_20, sh_21, sh_22, sh_23, sh_24, sh_25, sh_26, sh_27, sh_28, sh_29, sh_30, sh_31, sh_32, sh_33, sh_34, sh_35, sh_36, sh_37, sh_38, sh_39, sh_40, sh_41, sh_42, sh_43, sh_44, sh_45, sh_46, sh_47, sh_48, sh_49, sh_50, sh_51, sh_52, sh_53, sh_54, sh_55, sh_56, sh_57, sh_58, sh_59, sh_60, sh_61, sh_62, sh_63, sh_64, sh_65, sh_66, sh_67, sh_68, sh_69, sh_70, sh_71, sh_72, sh_73, sh_74, sh_75, sh_76, sh_77, sh_78, sh_79, sh_80, sh_81, sh_82, sh_83, sh_84, sh_85, sh_86, sh_87, sh_88, sh_89, sh_90, sh_91, sh_92, sh_93, sh_94, sh_95, sh_96, sh_97, sh_98, sh_99, sh_100, sh_101, sh_102, sh_103, sh_104, sh_105, sh_106, sh_107, sh_108, sh_109, sh_110, sh_111, sh_112, sh_113, sh_114, sh_115, sh_116, sh_117, sh_118, sh_119, sh_120, sh_121, sh_122, sh_123, sh_124, sh_125, sh_126, sh_127, sh_128, sh_129, sh_130, sh_131, sh_132, sh_133, sh_134, sh_135, sh_136, sh_137, rf_0_0, rf_0_1, rf_0_2, rf_0_3, rf_0_4, rf_0_5, rf_0_6, rf_0_7, rf_0_8, rf_0_9, rf_0_10, rf_1_0, rf_1_2, rf_1_3, rf_1_4, rf_6_0, rf_6_1, rf_6_2, rf_6_3, rf_6_4, rf_6_5, rf_6_9, rf_6_10, rf_7_3, rf_7_4, rf_7_5, rf_7_6, rf_7_7, rf_12_0, rf_12_1, rf_15_1, rf_15_2, rf_15_3, rf_15_4, rf_15_5, rf_15_7, rf_22_1, rf_22_2, rf_22_3, rf_22_4, rf_27_1, rf_29_0, rf_31_7, rf_35_0, rf_35_1, rf_35_2, rf_35_3, rf_35_4, rf_35_5, rf_35_9, rf_35_10, rf_36_3, rf_36_4, rf_36_5, rf_36_6, rf_36_7, rf_41_0, rf_41_1, rf_44_1, rf_44_2, rf_44_3, rf_44_4, rf_44_5, rf_44_7, rf_51_1, rf_51_2, rf_51_3, rf_51_4, rf_56_1, rf_58_0, rf_60_7, rf_64_3, rf_64_4, rf_64_5, rf_64_6, rf_64_7, rf_69_0, rf_69_1, rf_72_1, rf_72_2, rf_72_3, rf_72_4, rf_72_5, rf_72_7, rf_79_1, rf_79_2, rf_79_3, rf_79_4, rf_84_1, rf_86_0, rf_86_1, rf_86_2, rf_86_3, rf_88_0, rf_88_1, rf_88_2, rf_92_0, rf_92_1, rf_92_2, rf_97_0, rf_97_1, rf_97_7, rf_97_8, rf_102_2, rf_102_3, rf_102_4, rf_107_7, rf_109_7, rf_111_7, rf_113_7, rf_115_7, rf_117_7, rf_119_0, rf_119_1, rf_119_2, rf_119_3, rf_119_6, rf_119_7, rf_119_8, rf_119_9, rf_119_10, rf_119_11, rf_119_12, rf_119_13, rf_119_14, rf_119_37, rf_119_38, rf_119_39, rf_119_40, rf_119_41, rf_e, kW2_0, kW_0, kW_1, kW_2, kW_3, kWc_ap, J_add, J_sub, J_mul, wc_eq, wc_ne, wc_lt, wc_ge, wc_gt, wc_le, b_true, b_not_true, J_in, J_nat, J_max, J_min, J_abs, J_div, J_rem, J_z, J_o, J_ltz, J_ite, wUI_mk, wUC_mk, wUR_mk, if_true, if_false, and_true, true_and, and_self, List.length_cons, List.length_nil, List.all_cons, List.all_nil, wIR, List.cons_append, List.nil_append, List.append_nil, Bool.and_self, Bool.and_true, Bool.true_and, Int32.reduceToInt, Nat.le_refl, Nat.sub_self, List.replicate_zero, List.reduceReplicate, not_false_eq_true, not_true_eq_false, reduceCtorEq, true_or, or_true, or_false, false_or, Int.toNat_natCast, Nat.reduceEqDiff, Nat.reduceAdd, Nat.reduceSub, Nat.reduceMul, Nat.reduceLeDiff, Nat.zero_add, Int.reduceToNat, Int.reduceAdd, Int.reduceSub, Int.reduceMul, Int.reduceNeg, Int.reduceLT, Int.reduceLE, Int.reduceEq, ↓reduceIte, decide_true, decide_false, Bool.not_true, Bool.not_false, Bool.false_eq_true, tn_add, tn_mul, tn_sub, wb_ne, wb_eq, jb01, jb00, jb11, ji_0, ji_1, em_r, nn_r, Nat.add_sub_cancel, Nat.add_one_sub_one, add_neg1, nc_sub1, mU_same, mU_skip, nX8_restart, bX8_restart, nX0_forget, bX0_forget, hfl, hfl2]
  obtain ⟨m2, hm2⟩ : ∃ m2 : wMm, m2 = fillC (mU (mU (mU (fillC (mU (mU (mU (mU (mU m1 31 0 (J 0)) 31 1 (J 0)) 31 2 (J 0)) 31 3 (J 0)) 31 4 (J 0)) 32 201 (J 0)) 32 0 (J 1)) 22 0 (J 0)) 27 0 (J 0)) 28 196 (J 0) := ⟨_, rfl⟩
  refine ⟨m2, by rw [hm2], ?_, ?_⟩
  · have hno : ∀ c, c ≠ 22 → c ≠ 27 → c ≠ 28 → c ≠ 31 → c ≠ 32 → m2 c = m1 c := fun c q1 q2 q3 q4 q5 => by
      rw [hm2]
      unfold fillC
      rw [mC_ne q3, mU_ne q2, mU_ne q1, mU_ne q5, mC_ne q5, mU_ne q4, mU_ne q4, mU_ne q4, mU_ne q4, mU_ne q4]
    refine ⟨g1.o (fun c q1 q2 => hno c (by omega) (by omega) (by omega) (by omega) (by omega)), (h2.ag (ho 212 (by omega)) (fun k hk => ho k (by omega))).o (fun c q1 q2 => (hno c (by omega) (by omega) (by omega) (by omega) (by omega)).trans (gk c (by omega))), ⟨?_, fun i hi => ?_⟩, ⟨?_, fun i hi => ?_⟩, (h5.ag (fun k hk => ho k (by omega))).o ((hno _ (by omega) (by omega) (by omega) (by omega) (by omega)).trans (gk _ (by omega))), ⟨?_, fun p hp => ?_⟩, (h7.ag hG.2.2.2.2.1.1 (fun k hk => ho k (by omega))).o (fun c hc => ?_)⟩
    · rw [z13, hm2]
      unfold fillC
      rw [mC_ne (by omega), mU_ne (by omega), mU_same]
      rfl
    · rw [z13] at hi
      omega
    · rw [z14, hm2]
      unfold fillC
      rw [mC_ne (by omega), mU_same]
      rfl
    · rw [z7 i hi, hm2]
      unfold fillC
      rw [mC_eq]
      show (if i < 196 then J 0 else _) = _
      rw [if_pos hi]
      rfl
    · have hst : ∀ k, 5 ≤ k → m2 31 k = m 31 k := fun k hk => by
        rw [hm2]
        unfold fillC
        rw [mC_ne (by omega), mU_ne (by omega), mU_ne (by omega), mU_ne (by omega), mC_ne (by omega), mU_skip (by omega), mU_skip (by omega), mU_skip (by omega), mU_skip (by omega), mU_skip (by omega), gk 31 (by omega)]
      have hst0 : ∀ k, k < 5 → m2 31 k = J 0 := fun k hk => by
        rw [hm2]
        unfold fillC
        rw [mC_ne (by omega), mU_ne (by omega), mU_ne (by omega), mU_ne (by omega), mC_ne (by omega)]
        obtain rfl | rfl | rfl | rfl | rfl : k = 0 ∨ k = 1 ∨ k = 2 ∨ k = 3 ∨ k = 4 := by omega
        · rw [mU_skip (by omega), mU_skip (by omega), mU_skip (by omega), mU_skip (by omega), mU_same]
        · rw [mU_skip (by omega), mU_skip (by omega), mU_skip (by omega), mU_same]
        · rw [mU_skip (by omega), mU_skip (by omega), mU_same]
        · rw [mU_skip (by omega), mU_same]
        · rw [mU_same]
      rw [z0, z1, z2, z3, z4, ho 5 (by omega), ho 6 (by omega)]
      obtain ⟨⟨_, _, _, _, _, q5, q6⟩, _⟩ := h6
      exact ⟨hst0 0 (by omega), hst0 1 (by omega), hst0 2 (by omega), hst0 3 (by omega), hst0 4 (by omega), (hst 5 (by omega)).trans q5, (hst 6 (by omega)).trans q6⟩
    · rw [zk p hp, hm2]
      unfold fillC aloneM
      rw [mC_ne (by omega), mU_ne (by omega), mU_ne (by omega)]
      by_cases q : p = 0
      · subst q
        rw [mU_same, if_pos rfl]
        rfl
      · rw [mU_skip (by omega), mC_eq, if_neg q]
        show (if p < 201 then J 0 else _) = _
        rw [if_pos hp]
        rfl
    · rw [hno c (by omega) (by omega) (by omega) (by omega) (by omega)]
      exact gk c (by omega)
  · intro c hc
    rw [hm2]
    unfold fillC
    rw [mC_ne (by omega), mU_ne (by omega), mU_ne (by omega), mU_ne (by omega), mC_ne (by omega), mU_ne (by omega), mU_ne (by omega), mU_ne (by omega), mU_ne (by omega), mU_ne (by omega)]
    exact gk c (by omega)
end C45
