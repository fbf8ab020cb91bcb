/-! THE CLASS: told numbers stay while deeds go on -/
set_option maxRecDepth 100000 in
set_option maxHeartbeats 1500000 in
theorem seg_lo {s s' : wSg} (g : LO s s') (a n : Nat) : segM s' a n = segM s a n := segM_congr n a (fun k _ _ => g k (by omega) (by omega))
set_option maxRecDepth 100000 in
set_option maxHeartbeats 1500000 in
theorem cpos_lo {s s' : wSg} (g : LO s s') (k : Nat) : cposM s' k = cposM s k := by unfold cposM; rw [seg_lo g]
set_option maxRecDepth 100000 in
set_option maxHeartbeats 1500000 in
theorem LwK.lo {b : Nat} {s s' : wSg} {m : wMm} (h : LwK b s m) (g : LO s s') : LwK b s' m := by
  obtain ⟨h0, T, h1, h2, h3, h4, h5⟩ := h
  have e212 : s' 212 = s 212 := g 212 (by omega) (by omega)
  refine ⟨by rw [e212]; exact h0, T, fun i hi => ?_, by rw [cpos_lo g]; exact h2, by rw [cpos_lo g]; exact h3, by rw [seg_lo g]; exact h4, fun i hi => ?_⟩
  · rw [e212] at hi
    rw [g (1586 + i) (by omega) (by omega)]
    exact h1 i hi
  · rw [e212] at hi
    rw [g (1602 + i) (by omega) (by omega), g (1554 + i) (by omega) (by omega), g (1570 + i) (by omega) (by omega), g (1586 + i) (by omega) (by omega), cpos_lo g, cpos_lo g, cpos_lo g]
    exact h5 i hi
set_option maxRecDepth 100000 in
set_option maxHeartbeats 1500000 in
theorem EvK.lo {b : Nat} {s s' : wSg} {m : wMm} (h : EvK b s m) (g : LO s s') (h60 : s 213 ≤ 60) : EvK b s' m := by
  have e : s' 213 = s 213 := g 213 (by omega) (by omega)
  refine ⟨by rw [e]; exact h.1, fun i hi => ?_⟩
  rw [e] at hi
  rw [g (674 + i) (by omega) (by omega)]
  exact h.2 i hi
set_option maxRecDepth 100000 in
set_option maxHeartbeats 1500000 in
theorem AfK.lo {b : Nat} {s s' : wSg} {m : wMm} (h : AfK b s m) (g : LO s s') : AfK b s' m := ⟨by rw [g 214 (by omega) (by omega)]; exact h.1, fun i hi => by
  rw [g (734 + i) (by omega) (by omega)]
  exact h.2 i hi⟩
set_option maxRecDepth 100000 in
set_option maxHeartbeats 1500000 in
theorem WnK.lo {b : Nat} {s s' : wSg} {m : wMm} (h : WnK b s m) (g : LO s s') (h12 : s 215 ≤ 12) : WnK b s' m := by
  have e : s' 215 = s 215 := g 215 (by omega) (by omega)
  refine ⟨by rw [e, g 209 (by omega) (by omega), g 210 (by omega) (by omega)]; exact h.1, fun i hi => ?_⟩
  rw [e] at hi
  rw [g (930 + 2 * i) (by omega) (by omega), g (930 + 2 * i + 1) (by omega) (by omega)]
  exact h.2 i hi
/-- all that the numbers must be; no more than B windings -/
def gOK (B : Nat) (s : wSg) : Prop := invS s ∧ songsOK s ∧ deedsOK s ∧ aftOK s ∧ wornOK s ∧ hrdOK s ∧ s 4 ≤ B
set_option maxRecDepth 100000 in
set_option maxHeartbeats 1500000 in
theorem songsOK.lo {s s' : wSg} (h : songsOK s) (g : LO s s') : songsOK s' := by
  obtain ⟨h1, h2, h3, h4⟩ := h
  have e11 : s' 211 = s 211 := g 211 (by omega) (by omega)
  have e8 : s' 208 = s 208 := g.e208
  refine ⟨by rw [e11]; exact h1, by rw [e8]; exact h2, fun i hi => ?_, fun i hi => ?_⟩
  · rw [e11] at hi
    rw [g (216 + 4 * i) (by omega) (by omega), g (216 + 4 * i + 1) (by omega) (by omega), g (216 + 4 * i + 2) (by omega) (by omega), g (216 + 4 * i + 3) (by omega) (by omega), e8]
    exact h3 i hi
  · rw [e11] at hi
    rw [g (216 + 4 * i) (by omega) (by omega), g (216 + 4 * (i + 1)) (by omega) (by omega)]
    exact h4 i hi
set_option maxRecDepth 100000 in
set_option maxHeartbeats 1500000 in
theorem deedsOK.lo {s s' : wSg} (h : deedsOK s) (g : LO s s') : deedsOK s' := by
  have e : s' 213 = s 213 := g 213 (by omega) (by omega)
  refine ⟨by rw [e]; exact h.1, fun i hi => ?_⟩
  rw [e] at hi
  have := h.1
  rw [g (674 + i) (by omega) (by omega)]
  exact h.2 i hi
set_option maxRecDepth 100000 in
set_option maxHeartbeats 1500000 in
theorem aftOK.lo {s s' : wSg} (h : aftOK s) (g : LO s s') : aftOK s' := fun i hi => by
  rw [g (734 + i) (by omega) (by omega)]
  exact h i hi
set_option maxRecDepth 100000 in
set_option maxHeartbeats 1500000 in
theorem wornOK.lo {s s' : wSg} (h : wornOK s) (g : LO s s') : wornOK s' := by
  have e : s' 215 = s 215 := g 215 (by omega) (by omega)
  refine ⟨by rw [e]; exact h.1, fun i hi => ?_⟩
  rw [e] at hi
  have := h.1
  rw [g (930 + 2 * i) (by omega) (by omega), g (930 + 2 * i + 1) (by omega) (by omega)]
  exact h.2 i hi
set_option maxRecDepth 100000 in
set_option maxHeartbeats 1500000 in
theorem hrdOK.lo {s s' : wSg} (h : hrdOK s) (g : LO s s') (h200 : s 208 ≤ 200) : hrdOK s' := fun sd p h1 h2 => by
  rw [g.e208] at h2
  rw [g (272 + 201 * sd + p) (by omega) (by omega), g 211 (by omega) (by omega)]
  exact h sd p h1 h2
set_option maxRecDepth 100000 in
set_option maxHeartbeats 1500000 in
theorem gOK.lo {B B' : Nat} {s s' : wSg} (h : gOK B s) (g : LO s s') (hst : standOK s') (hB : s' 4 ≤ B') : gOK B' s' := ⟨h.1.mk' g hst, h.2.1.lo g, h.2.2.1.lo g, h.2.2.2.1.lo g, h.2.2.2.2.1.lo g, h.2.2.2.2.2.1.lo g h.1.1.2.2.1, hB⟩
/-- the book and the stand (of the deck at 6) -/
def MvK (s : wSg) (m : wMm) : Prop := BkK 29 s m ∧ StK 31 s m
set_option maxRecDepth 100000 in
set_option maxHeartbeats 1500000 in
theorem MvK.o {s : wSg} {m m' : wMm} (h : MvK s m) (e : ∀ c, 30 ≤ c → c ≤ 32 → m' c = m c) : MvK s m' := ⟨h.1.o (e 30 (by omega) (by omega)), h.2.o (fun c h1 h2 => e c (by omega) (by omega))⟩
set_option maxRecDepth 100000 in
set_option maxHeartbeats 1500000 in
theorem MvK.to {s s' : wSg} {m : wMm} (h : MvK s m) (e : s = s') : MvK s' m := e ▸ h
set_option maxRecDepth 100000 in
set_option maxHeartbeats 1500000 in
theorem MvK.put {s : wSg} {m : wMm} (h : MvK s m) {i v : Nat} {x : Int32} (hi : i < 7) (hx : x = J v) : MvK (su s i v) (mU m 31 i x) := by
  subst hx
  obtain ⟨h1, ⟨a0, a1, a2, a3, a4, a5, a6⟩, h3⟩ := h
  have key : ∀ k, m 31 k = J (s k) → mU m 31 i (J v) 31 k = J (su s i v k) := fun k hk => by
    rw [mU_at, if_pos rfl, su_at]
    by_cases q : k = i
    · rw [if_pos q, if_pos q]
    · rw [if_neg q, if_neg q]; exact hk
  refine ⟨fun j hj => ?_, ⟨key 0 a0, key 1 a1, key 2 a2, key 3 a3, key 4 a4, key 5 a5, key 6 a6⟩, fun p hp => ?_⟩
  · rw [mU_ne (by omega), su_ne (by omega)]; exact h1 j hj
  · rw [mU_ne (by omega), su_ne (by omega)]; exact h3 p hp
set_option maxRecDepth 100000 in
set_option maxHeartbeats 1500000 in
theorem MvK.book {s : wSg} {m : wMm} (h : MvK s m) {j v : Nat} {x : Int32} (hj : j < 600) (hx : x = J v) : MvK (su s (954 + j) v) (mU m 30 j x) := by
  subst hx
  obtain ⟨h1, ⟨a0, a1, a2, a3, a4, a5, a6⟩, h3⟩ := h
  have key : ∀ k, k < 7 → m 31 k = J (s k) → mU m 30 j (J v) 31 k = J (su s (954 + j) v k) := fun k hk h => by
    rw [mU_ne (by omega), su_ne (by omega)]; exact h
  refine ⟨fun i hi => ?_, ⟨key 0 (by omega) a0, key 1 (by omega) a1, key 2 (by omega) a2, key 3 (by omega) a3, key 4 (by omega) a4, key 5 (by omega) a5, key 6 (by omega) a6⟩, fun p hp => ?_⟩
  · rw [mU_at, if_pos rfl, su_at]
    by_cases q : i = j
    · rw [if_pos q, if_pos (by omega)]
    · rw [if_neg q, if_neg (by omega)]; exact h1 i hi
  · rw [mU_ne (by omega), su_ne (by omega)]; exact h3 p hp
set_option maxRecDepth 100000 in
set_option maxHeartbeats 1500000 in
theorem MvK.kn {s f : wSg} {m m' : wMm} (h : MvK s m) (hf : ∀ p, p < 201 → m' 32 p = J (f p)) (e : ∀ c, c = 30 ∨ c = 31 → m' c = m c) : MvK (setK s f) m' := by
  obtain ⟨h1, h2, h3⟩ := h
  refine ⟨fun j hj => ?_, ?_, fun p hp => ?_⟩
  · rw [e 30 (by omega), setK_at, if_neg (by omega)]; exact h1 j hj
  · rw [e 31 (by omega), setK_at, if_neg (by omega), setK_at, if_neg (by omega), setK_at, if_neg (by omega), setK_at, if_neg (by omega), setK_at, if_neg (by omega), setK_at, if_neg (by omega), setK_at, if_neg (by omega)]
    exact h2
  · rw [setK_at, if_pos (by omega), show 7 + p - 7 = p by omega]; exact hf p hp
set_option maxRecDepth 100000 in
set_option maxHeartbeats 1500000 in
theorem su_comm (s : wSg) {i j : Nat} (h : i ≠ j) (a b : Nat) : su (su s i a) j b = su (su s j b) i a := funext fun k => by
  rw [su_at, su_at, su_at, su_at]
  by_cases q : k = j
  · rw [if_pos q, if_neg (by omega), if_pos q]
  · rw [if_neg q, if_neg q]
/-- a deed's changes: the law's stack, the book, the stand, the runner -/
def KD (m m' : wMm) : Prop := ∀ c, ¬ (c = 21 ∨ (30 ≤ c ∧ c ≤ 32)) → ¬ (86 ≤ c ∧ c ≤ 96) → m' c = m c
set_option maxRecDepth 100000 in
set_option maxHeartbeats 1500000 in
theorem KD.refl (m : wMm) : KD m m := fun _ _ _ => rfl
set_option maxRecDepth 100000 in
set_option maxHeartbeats 1500000 in
theorem KD.trans {a b c : wMm} (h : KD a b) (g : KD b c) : KD a c := fun q h1 h2 => (g q h1 h2).trans (h q h1 h2)
set_option maxRecDepth 100000 in
set_option maxHeartbeats 1500000 in
theorem KG.kd {a b : wMm} (h : KG a b) : KD a b := fun q h1 h2 => h q (by omega) h2
set_option maxRecDepth 100000 in
set_option maxHeartbeats 1500000 in
theorem KD.set {a b : wMm} (h : KD a b) {c k : Nat} {v : Int32} (hc : (30 ≤ c ∧ c ≤ 32) ∨ (86 ≤ c ∧ c ≤ 96)) : KD a (mU b c k v) := fun q h1 h2 => by rw [mU_ne (by omega)]; exact h q h1 h2
set_option maxRecDepth 100000 in
set_option maxHeartbeats 1500000 in
theorem DkK.mv {s : wSg} {m : wMm} (h : DkK 6 s m) : MvK s m := ⟨h.2.2.2.2.1, h.2.2.2.2.2.1⟩
set_option maxRecDepth 100000 in
set_option maxHeartbeats 1500000 in
theorem DkK.deed {B : Nat} {s s' : wSg} {m m' : wMm} (h : DkK 6 s m) (g : LO s s') (hG : gOK B s) (k : KD m m') (hm : MvK s' m') : DkK 6 s' m' := by
  obtain ⟨h1, h2, h3, h4, h5, h6, h7⟩ := h
  refine ⟨(h1.go hG.2.1.1 hG.1.1.2.2.1 g).o (fun c _ _ => k c (by omega) (by omega)), (h2.lo g).o (fun c _ _ => k c (by omega) (by omega)), (h3.lo g hG.2.2.1.1).o (fun c _ _ => k c (by omega) (by omega)), (h4.lo g).o (fun c _ _ => k c (by omega) (by omega)), hm.1, hm.2, (h7.lo g hG.2.2.2.2.1.1).o (fun c hc => k c (by omega) (by omega))⟩
/-- the end of a deed: answer, numbers, stamps -/
def CDk (m : wMm) (e : Nat → Nat) (st : Nat) (s' : wSg) (r : Option Value) : Option Value → wS → Prop := fun r' u => r' = r ∧ ∃ (m' : wMm) (st' : Nat), u = (m', RF e) ∧ DkK 6 s' m' ∧ m' 86 4 = J st' ∧ StmK m' st' ∧ st' ≤ st + 10 ∧ KD m m'
set_option maxRecDepth 100000 in
set_option maxHeartbeats 1500000 in
theorem CDk.use {f : wM} {vs : List Value} {m : wMm} {e : Nat → Nat} {st : Nat} {s' : wSg} {r : Option Value} {Q : Option Value → wS → Prop} (h : PM f vs (m, RF e) (CDk m e st s' r)) (k : ∀ (m' : wMm) (st' : Nat), DkK 6 s' m' → m' 86 4 = J st' → StmK m' st' → st' ≤ st + 10 → KD m m' → Q r (m', RF e)) : PM f vs (m, RF e) Q := PM_mono h (fun r' u hh => by
  obtain ⟨rfl, m', st', rfl, h1, h2, h3, h4, h5⟩ := hh
  exact k m' st' h1 h2 h3 h4 h5)
set_option maxRecDepth 100000 in
set_option maxHeartbeats 1500000 in
theorem xor_tab : ∀ k : Fin 3001, decide ((oXor (J ((k : Nat) - 1000 : Int)) (J 1000)).toInt < 0) = decide ((k : Nat) < 1000) := by decide +kernel
section C7
variable (K : Nat) (e : Nat → Nat) {m : wMm} {s : wSg} (Q : Option Value → wS → Prop)
set_option maxRecDepth 100000 in
set_option maxHeartbeats 1500000 in
theorem c_floorMod (t : wS) {a : Int} (h1 : -1000 ≤ a) (h2 : a ≤ 2000) : PM (nJ9_floorMod_7cf53 K SH) [.int (J a), .int (J 1000)] t Q = Q (some (.int (J (a % 1000)))) t := by
  have hx : ∃ b, oXor (J a) (J 1000) = J b ∧ -2147483648 ≤ b ∧ b < 2147483648 ∧ (b < 0 ↔ a < 0) := by
    refine ⟨_, (J_eta _).symm, Int32.le_toInt _, Int32.toInt_lt _, ?_⟩
    have h := xor_tab ⟨(a + 1000).toNat, by omega⟩
    have e1 : (((a + 1000).toNat : Nat) : Int) - 1000 = a := by omega
    dsimp only at h
    rw [e1, decide_eq_decide] at h
    rw [h]
    omega
  obtain ⟨b, hb1, hb2, hb3, hb4⟩ := hx
  by_cases c : 0 ≤ a
  · have hr : oRem (J a) (J 1000) = J (a % 1000) := J_rem c (by omega) (by omega) (by omega)
    simp (disch := omega) only [nJ9_floorMod_7cf53, bJ9_floorMod_7cf53, wr_1, wr_2, wr_3, wr_4, wr_5, wr_6, wr_7, wr_8, wr_9, wr_10, wr_11, wr_12, wr_13, wr_14, wr_15, wr_16, wr_17, wr_18, wr_19, wr_20, wr_21, wr_22, wr_23, wr_24, wr_25, wr_26, wr_27, wr_28, wr_29, wr_30, wr_31, wr_32, wr_33, wr_34, wr_35, wr_36, wr_37, wr_38, wr_39, wr_40, wr_41, wr_42, wr_43, wr_44, wr_45, wr_46, wr_47, wr_48, wr_49, wr_50, wr_51, wr_52, wr_53, wr_54, wr_55, wr_56, wr_57, wr_58, wr_59, wr_60, wr_61, wr_62, wr_63, wr_64, wr_65, wr_66, wr_67, wr_68, wr_69, wr_70, wr_71, wr_72, wr_73, wr_74, wr_75, wr_76, wr_77, wr_78, wr_79, wr_80, wr_81, wr_82, wr_83, wr_84, wr_85, wr_86, wr_87, wr_88, wr_89, wr_90, wr_91, wr_92, wr_93, wr_94, wr_95, wr_96, wr_97, wr_98, wr_99, wr_100, wr_101, wr_102, wr_103, wr_104, wr_105, wr_106, wr_107, wr_108, wr_109, wr_110, wr_111, wr_112, wr_113, wr_114, wr_115, wr_116, wr_117, wr_118, wr_119, wr_120, wr_121, wr_den, wr_122, wr_123, wr_124, wr_125, wr_126, wr_127, wr_128, wr_129, wr_130, wr_131, wr_132, wr_133, wr_134, wr_135, wr_136, wr_137, wr_138, wr_139, wr_140, wr_141, wr_142, wr_143, wr_144, wr_145, wr_146, wr_147, wr_148, wr_149, wr_150, wr_151, wr_152, wr_153, wr_154, wr_155, wr_156, wr_157, wr_158, wr_159, wr_160, wr_161, wr_162, wr_163, wr_164, wr_165, wr_166, wr_167, wr_168, wr_169, wr_170, wr_171, wr_172, wr_173, wr_174, wr_175, wr_176, wr_177, wr_178, wr_179, wr_180, wr_181, wr_182, wr_183, wr_184, wr_185, wr_186, wr_187, wr_188, wr_189, wr_190, wr_191, wr_192, wr_193, wr_194, wr_195, wr_196, wr_197, wr_198, wr_199, wr_200, wr_201, wr_202, wr_203, wr_204, wr_205, wr_206, wsw_J, J_inj, wr_208, sh_0, sh_1, sh_2, sh_3, sh_4, sh_5, sh_6, sh_7, sh_8, sh_9, sh_10, sh_11, sh_12, sh_13, sh_14, sh_15, sh_16, sh_17, sh_18, sh_19, sh_20, sh_21, sh_22, sh_23, sh_24, sh_25, sh_26, sh_27, sh_28, sh_29, sh_30, sh_31, sh_32, sh_33, sh_34, sh_35, sh_36, sh_37, sh_38, sh_39, sh_40, sh_41, sh_42, sh_43, sh_44, sh_45, sh_46, sh_47, sh_48, sh_49, sh_50, sh_51, sh_52, sh_53, sh_54, sh_55, sh_56, sh_57, sh_58, sh_59, sh_60, sh_61, sh_62, sh_63, sh_64, sh_65, sh_66, sh_67, sh_68, sh_69, sh_70, sh_71, sh_72, sh_73, sh_74, sh_75, sh_76, sh_77, sh_78, sh_79, sh_80, sh_81, sh_82, sh_83, sh_84, sh_85, sh_86, sh_87, sh_88, sh_89, sh_90, sh_91, sh_92, sh_93, sh_94, sh_95, sh_96, sh_97, sh_98, sh_99, sh_100, sh_101, sh_102, sh_103, sh_104, sh_105, sh_106, sh_107, sh_108, sh_109, sh_110, sh_111, sh_112, sh_113, sh_114, sh_115, sh_116, sh_117, sh_118, sh_119, sh_120, sh_121, sh_122, sh_123, sh_124, sh_125, sh_126, sh_127, sh_128, sh_129, sh_130, sh_131, sh_132, sh_133, sh_134, sh_135, sh_136, sh_137, rf_0_0, rf_0_1, rf_0_2, rf_0_3, rf_0_4, rf_0_5, rf_0_6, rf_0_7, rf_0_8, rf_0_9, rf_0_10, rf_1_0, rf_1_2, rf_1_3, rf_1_4, rf_6_0, rf_6_1, rf_6_2, rf_6_3, rf_6_4, rf_6_5, rf_6_9, rf_6_10, rf_7_3, rf_7_4, rf_7_5, rf_7_6, rf_7_7, rf_12_0, rf_12_1, rf_15_1, rf_15_2, rf_15_3, rf_15_4, rf_15_5, rf_15_7, rf_22_1, rf_22_2, rf_22_3, rf_22_4, rf_27_1, rf_29_0, rf_31_7, rf_35_0, rf_35_1, rf_35_2, rf_35_3, rf_35_4, rf_35_5, rf_35_9, rf_35_10, rf_36_3, rf_36_4, rf_36_5, rf_36_6, rf_36_7, rf_41_0, rf_41_1, rf_44_1, rf_44_2, rf_44_3, rf_44_4, rf_44_5, rf_44_7, rf_51_1, rf_51_2, rf_51_3, rf_51_4, rf_56_1, rf_58_0, rf_60_7, rf_64_3, rf_64_4, rf_64_5, rf_64_6, rf_64_7, rf_69_0, rf_69_1, rf_72_1, rf_72_2, rf_72_3, rf_72_4, rf_72_5, rf_72_7, rf_79_1, rf_79_2, rf_79_3, rf_79_4, rf_84_1, rf_86_0, rf_86_1, rf_86_2, rf_86_3, rf_88_0, rf_88_1, rf_88_2, rf_92_0, rf_92_1, rf_92_2, rf_97_0, rf_97_1, rf_97_7, rf_97_8, rf_102_2, rf_102_3, rf_102_4, rf_107_7, rf_109_7, rf_111_7, rf_113_7, rf_115_7, rf_117_7, rf_119_0, rf_119_1, rf_119_2, rf_119_3, rf_119_6, rf_119_7, rf_119_8, rf_119_9, rf_119_10, rf_119_11, rf_119_12, rf_119_13, rf_119_14, rf_119_37, rf_119_38, rf_119_39, rf_119_40, rf_119_41, rf_e, kW2_0, kW_0, kW_1, kW_2, kW_3, kWc_ap, J_add, J_sub, J_mul, wc_eq, wc_ne, wc_lt, wc_ge, wc_gt, wc_le, b_true, b_not_true, J_in, J_nat, J_max, J_min, J_abs, J_div, J_rem, J_z, J_o, J_ltz, J_ite, wUI_mk, wUC_mk, wUR_mk, if_true, if_false, and_true, true_and, and_self, List.length_cons, List.length_nil, List.all_cons, List.all_nil, wIR, List.cons_append, List.nil_append, List.append_nil, Bool.and_self, Bool.and_true, Bool.true_and, Int32.reduceToInt, Nat.le_refl, Nat.sub_self, List.replicate_zero, List.reduceReplicate, not_false_eq_true, not_true_eq_false, reduceCtorEq, true_or, or_true, or_false, false_or, Int.toNat_natCast, Nat.reduceEqDiff, Nat.reduceAdd, Nat.reduceSub, Nat.reduceMul, Nat.reduceLeDiff, Nat.zero_add, Int.reduceToNat, Int.reduceAdd, Int.reduceSub, Int.reduceMul, Int.reduceNeg, Int.reduceLT, Int.reduceLE, Int.reduceEq, ↓reduceIte, decide_true, decide_false, Bool.not_true, Bool.not_false, Bool.false_eq_true, tn_add, tn_mul, tn_sub, wb_ne, wb_eq, jb01, jb00, jb11, ji_0, ji_1, em_r, nn_r, Nat.add_sub_cancel, Nat.add_one_sub_one, add_neg1, nc_sub1, mU_same, mU_skip, hr, hb1]
    rw [if_neg (by omega)]
  · have hr : oRem (J a) (J 1000) = J (-((-a) % 1000)) := J_remneg (by omega) (by omega) (by omega) (by omega)
    simp (disch := omega) only [nJ9_floorMod_7cf53, bJ9_floorMod_7cf53, wr_1, wr_2, wr_3, wr_4, wr_5, wr_6, wr_7, wr_8, wr_9, wr_10, wr_11, wr_12, wr_13, wr_14, wr_15, wr_16, wr_17, wr_18, wr_19, wr_20, wr_21, wr_22, wr_23, wr_24, wr_25, wr_26, wr_27, wr_28, wr_29, wr_30, wr_31, wr_32, wr_33, wr_34, wr_35, wr_36, wr_37, wr_38, wr_39, wr_40, wr_41, wr_42, wr_43, wr_44, wr_45, wr_46, wr_47, wr_48, wr_49, wr_50, wr_51, wr_52, wr_53, wr_54, wr_55, wr_56, wr_57, wr_58, wr_59, wr_60, wr_61, wr_62, wr_63, wr_64, wr_65, wr_66, wr_67, wr_68, wr_69, wr_70, wr_71, wr_72, wr_73, wr_74, wr_75, wr_76, wr_77, wr_78, wr_79, wr_80, wr_81, wr_82, wr_83, wr_84, wr_85, wr_86, wr_87, wr_88, wr_89, wr_90, wr_91, wr_92, wr_93, wr_94, wr_95, wr_96, wr_97, wr_98, wr_99, wr_100, wr_101, wr_102, wr_103, wr_104, wr_105, wr_106, wr_107, wr_108, wr_109, wr_110, wr_111, wr_112, wr_113, wr_114, wr_115, wr_116, wr_117, wr_118, wr_119, wr_120, wr_121, wr_den, wr_122, wr_123, wr_124, wr_125, wr_126, wr_127, wr_128, wr_129, wr_130, wr_131, wr_132, wr_133, wr_134, wr_135, wr_136, wr_137, wr_138, wr_139, wr_140, wr_141, wr_142, wr_143, wr_144, wr_145, wr_146, wr_147, wr_148, wr_149, wr_150, wr_151, wr_152, wr_153, wr_154, wr_155, wr_156, wr_157, wr_158, wr_159, wr_160, wr_161, wr_162, wr_163, wr_164, wr_165, wr_166, wr_167, wr_168, wr_169, wr_170, wr_171, wr_172, wr_173, wr_174, wr_175, wr_176, wr_177, wr_178, wr_179, wr_180, wr_181, wr_182, wr_183, wr_184, wr_185, wr_186, wr_187, wr_188, wr_189, wr_190, wr_191, wr_192, wr_193, wr_194, wr_195, wr_196, wr_197, wr_198, wr_199, wr_200, wr_201, wr_202, wr_203, wr_204, wr_205, wr_206, wsw_J, J_inj, wr_208, sh_0, sh_1, sh_2, sh_3, sh_4, sh_5, sh_6, sh_7, sh_8, sh_9, sh_10, sh_11, sh_12, sh_13, sh_14, sh_15, sh_16, sh_17, sh_18, sh_19, sh_20, sh_21, sh_22, sh_23, sh_24, sh_25, sh_26, sh_27, sh_28, sh_29, sh_30, sh_31, sh_32, sh_33, sh_34, sh_35, sh_36, sh_37, sh_38, sh_39, sh_40, sh_41, sh_42, sh_43, sh_44, sh_45, sh_46, sh_47, sh_48, sh_49, sh_50, sh_51, sh_52, sh_53, sh_54, sh_55, sh_56, sh_57, sh_58, sh_59, sh_60, sh_61, sh_62, sh_63, sh_64, sh_65, sh_66, sh_67, sh_68, sh_69, sh_70, sh_71, sh_72, sh_73, sh_74, sh_75, sh_76, sh_77, sh_78, sh_79, sh_80, sh_81, sh_82, sh_83, sh_84, sh_85, sh_86, sh_87, sh_88, sh_89, sh_90, sh_91, sh_92, sh_93, sh_94, sh_95, sh_96, sh_97, sh_98, sh_99, sh_100, sh_101, sh_102, sh_103, sh_104, sh_105, sh_106, sh_107, sh_108, sh_109, sh_110, sh_111, sh_112, sh_113, sh_114, sh_115, sh_116, sh_117, sh_118, sh_119, sh_120, sh_121, sh_122, sh_123, sh_124, sh_125, sh_126, sh_127, sh_128, sh_129, sh_130, sh_131, sh_132, sh_133, sh_134, sh_135, sh_136, sh_137, rf_0_0, rf_0_1, rf_0_2, rf_0_3, rf_0_4, rf_0_5, rf_0_6, rf_0_7, rf_0_8, rf_0_9, rf_0_10, rf_1_0, rf_1_2, rf_1_3, rf_1_4, rf_6_0, rf_6_1, rf_6_2, rf_6_3, rf_6_4, rf_6_5, rf_6_9, rf_6_10, rf_7_3, rf_7_4, rf_7_5, rf_7_6, rf_7_7, rf_12_0, rf_12_1, rf_15_1, rf_15_2, rf_15_3, rf_15_4, rf_15_5, rf_15_7, rf_22_1, rf_22_2, rf_22_3, rf_22_4, rf_27_1, rf_29_0, rf_31_7, rf_35_0, rf_35_1, rf_35_2, rf_35_3, rf_35_4, rf_35_5, rf_35_9, rf_35_10, rf_36_3, rf_36_4, rf_36_5, rf_36_6, rf_36_7, rf_41_0, rf_41_1, rf_44_1, rf_44_2, rf_44_3, rf_44_4, rf_44_5, rf_44_7, rf_51_1, rf_51_2, rf_51_3, rf_51_4, rf_56_1, rf_58_0, rf_60_7, rf_64_3, rf_64_4, rf_64_5, rf_64_6, rf_64_7, rf_69_0, rf_69_1, rf_72_1, rf_72_2, rf_72_3, rf_72_4, rf_72_5, rf_72_7, rf_79_1, rf_79_2, rf_79_3, rf_79_4, rf_84_1, rf_86_0, rf_86_1, rf_86_2, rf_86_3, rf_88_0, rf_88_1, rf_88_2, rf_92_0, rf_92_1, rf_92_2, rf_97_0, rf_97_1, rf_97_7, rf_97_8, rf_102_2, rf_102_3, rf_102_4, rf_107_7, rf_109_7, rf_111_7, rf_113_7, rf_115_7, rf_117_7, rf_119_0, rf_119_1, rf_119_2, rf_119_3, rf_119_6, rf_119_7, rf_119_8, rf_119_9, rf_119_10, rf_119_11, rf_119_12, rf_119_13, rf_119_14, rf_119_37, rf_119_38, rf_119_39, rf_119_40, rf_119_41, rf_e, kW2_0, kW_0, kW_1, kW_2, kW_3, kWc_ap, J_add, J_sub, J_mul, wc_eq, wc_ne, wc_lt, wc_ge, wc_gt, wc_le, b_true, b_not_true, J_in, J_nat, J_max, J_min, J_abs, J_div, J_rem, J_z, J_o, J_ltz, J_ite, wUI_mk, wUC_mk, wUR_mk, if_true, if_false, and_true, true_and, and_self, List.length_cons, List.length_nil, List.all_cons, List.all_nil, wIR, List.cons_append, List.nil_append, List.append_nil, Bool.and_self, Bool.and_true, Bool.true_and, Int32.reduceToInt, Nat.le_refl, Nat.sub_self, List.replicate_zero, List.reduceReplicate, not_false_eq_true, not_true_eq_false, reduceCtorEq, true_or, or_true, or_false, false_or, Int.toNat_natCast, Nat.reduceEqDiff, Nat.reduceAdd, Nat.reduceSub, Nat.reduceMul, Nat.reduceLeDiff, Nat.zero_add, Int.reduceToNat, Int.reduceAdd, Int.reduceSub, Int.reduceMul, Int.reduceNeg, Int.reduceLT, Int.reduceLE, Int.reduceEq, ↓reduceIte, decide_true, decide_false, Bool.not_true, Bool.not_false, Bool.false_eq_true, tn_add, tn_mul, tn_sub, wb_ne, wb_eq, jb01, jb00, jb11, ji_0, ji_1, em_r, nn_r, Nat.add_sub_cancel, Nat.add_one_sub_one, add_neg1, nc_sub1, mU_same, mU_skip, hr, hb1]
    rw [if_pos (by omega)]
    by_cases c2 : (-a) % 1000 = 0
    · rw [if_neg (by omega), show -((-a) % 1000) = a % 1000 by omega]
    · rw [if_pos (by omega), show -((-a) % 1000) + 1000 = a % 1000 by omega]
set_option maxRecDepth 100000 in
set_option maxHeartbeats 1500000 in
theorem c_count (h2 : m 31 2 = J (s 2)) (hc : s 2 < 1000) {p q : Nat} (hp : p ≤ 200) (hq : q ≤ 200) : PM (nX8_count K SH) [.ref 31, .int (J ((p : Int) - (q : Int)))] (m, RF e) Q = Q none (mU m 31 2 (J (cntM (s 2) p q)), RF e) := by
  have hf := fun (t : wS) Q => c_floorMod K Q t (a := (s 2 : Int) + ((p : Int) - (q : Int))) (by omega) (by omega)
  have e1 : ((s 2 : Int) + ((p : Int) - (q : Int))) % 1000 = (cntM (s 2) p q : Int) := by unfold cntM; omega
  simp (disch := omega) only [nX8_count, bX8_count, wr_1, wr_2, wr_3, wr_4, wr_5, wr_6, wr_7, wr_8, wr_9, wr_10, wr_11, wr_12, wr_13, wr_14, wr_15, wr_16, wr_17, wr_18, wr_19, wr_20, wr_21, wr_22, wr_23, wr_24, wr_25, wr_26, wr_27, wr_28, wr_29, wr_30, wr_31, wr_32, wr_33, wr_34, wr_35, wr_36, wr_37, wr_38, wr_39, wr_40, wr_41, wr_42, wr_43, wr_44, wr_45, wr_46, wr_47, wr_48, wr_49, wr_50, wr_51, wr_52, wr_53, wr_54, wr_55, wr_56, wr_57, wr_58, wr_59, wr_60, wr_61, wr_62, wr_63, wr_64, wr_65, wr_66, wr_67, wr_68, wr_69, wr_70, wr_71, wr_72, wr_73, wr_74, wr_75, wr_76, wr_77, wr_78, wr_79, wr_80, wr_81, wr_82, wr_83, wr_84, wr_85, wr_86, wr_87, wr_88, wr_89, wr_90, wr_91, wr_92, wr_93, wr_94, wr_95, wr_96, wr_97, wr_98, wr_99, wr_100, wr_101, wr_102, wr_103, wr_104, wr_105, wr_106, wr_107, wr_108, wr_109, wr_110, wr_111, wr_112, wr_113, wr_114, wr_115, wr_116, wr_117, wr_118, wr_119, wr_120, wr_121, wr_den, wr_122, wr_123, wr_124, wr_125, wr_126, wr_127, wr_128, wr_129, wr_130, wr_131, wr_132, wr_133, wr_134, wr_135, wr_136, wr_137, wr_138, wr_139, wr_140, wr_141, wr_142, wr_143, wr_144, wr_145, wr_146, wr_147, wr_148, wr_149, wr_150, wr_151, wr_152, wr_153, wr_154, wr_155, wr_156, wr_157, wr_158, wr_159, wr_160, wr_161, wr_162, wr_163, wr_164, wr_165, wr_166, wr_167, wr_168, wr_169, wr_170, wr_171, wr_172, wr_173, wr_174, wr_175, wr_176, wr_177, wr_178, wr_179, wr_180, wr_181, wr_182, wr_183, wr_184, wr_185, wr_186, wr_187, wr_188, wr_189, wr_190, wr_191, wr_192, wr_193, wr_194, wr_195, wr_196, wr_197, wr_198, wr_199, wr_200, wr_201, wr_202, wr_203, wr_204, wr_205, wr_206, wsw_J, J_inj, wr_208, sh_0, sh_1, sh_2, sh_3, sh_4, sh_5, sh_6, sh_7, sh_8, sh_9, sh_10, sh_11, sh_12, sh_13, sh_14, sh_15, sh_16, sh_17, sh_18, sh_19, sh_20, sh_21, sh_22, sh_23, sh_24, sh_25, sh_26, sh_27, sh_28, sh_29, sh_30, sh_31, sh_32, sh_33, sh_34, sh_35, sh_36, sh_37, sh_38, sh_39, sh_40, sh_41, sh_42, sh_43, sh_44, sh_45, sh_46, sh_47, sh_48, sh_49, sh_50, sh_51, sh_52, sh_53, sh_54, sh_55, sh_56, sh_57, sh_58, sh_59, sh_60, sh_61, sh_62, sh_63, sh_64, sh_65, sh_66, sh_67, sh_68, sh_69, sh_70, sh_71, sh_72, sh_73, sh_74, sh_75, sh_76, sh_77, sh_78, sh_79, sh_80, sh_81, sh_82, sh_83, sh_84, sh_85, sh_86, sh_87, sh_88, sh_89, sh_90, sh_91, sh_92, sh_93, sh_94, sh_95, sh_96, sh_97, sh_98, sh_99, sh_100, sh_101, sh_102, sh_103, sh_104, sh_105, sh_106, sh_107, sh_108, sh_109, sh_110, sh_111, sh_112, sh_113, sh_114, sh_115, sh_116, sh_117, sh_118, sh_119, sh_120, sh_121, sh_122, sh_123, sh_124, sh_125, sh_126, sh_127, sh_128, sh_129, sh_130, sh_131, sh_132, sh_133, sh_134, sh_135, sh_136, sh_137, rf_0_0, rf_0_1, rf_0_2, rf_0_3, rf_0_4, rf_0_5, rf_0_6, rf_0_7, rf_0_8, rf_0_9, rf_0_10, rf_1_0, rf_1_2, rf_1_3, rf_1_4, rf_6_0, rf_6_1, rf_6_2, rf_6_3, rf_6_4, rf_6_5, rf_6_9, rf_6_10, rf_7_3, rf_7_4, rf_7_5, rf_7_6, rf_7_7, rf_12_0, rf_12_1, rf_15_1, rf_15_2, rf_15_3, rf_15_4, rf_15_5, rf_15_7, rf_22_1, rf_22_2, rf_22_3, rf_22_4, rf_27_1, rf_29_0, rf_31_7, rf_35_0, rf_35_1, rf_35_2, rf_35_3, rf_35_4, rf_35_5, rf_35_9, rf_35_10, rf_36_3, rf_36_4, rf_36_5, rf_36_6, rf_36_7, rf_41_0, rf_41_1, rf_44_1, rf_44_2, rf_44_3, rf_44_4, rf_44_5, rf_44_7, rf_51_1, rf_51_2, rf_51_3, rf_51_4, rf_56_1, rf_58_0, rf_60_7, rf_64_3, rf_64_4, rf_64_5, rf_64_6, rf_64_7, rf_69_0, rf_69_1, rf_72_1, rf_72_2, rf_72_3, rf_72_4, rf_72_5, rf_72_7, rf_79_1, rf_79_2, rf_79_3, rf_79_4, rf_84_1, rf_86_0, rf_86_1, rf_86_2, rf_86_3, rf_88_0, rf_88_1, rf_88_2, rf_92_0, rf_92_1, rf_92_2, rf_97_0, rf_97_1, rf_97_7, rf_97_8, rf_102_2, rf_102_3, rf_102_4, rf_107_7, rf_109_7, rf_111_7, rf_113_7, rf_115_7, rf_117_7, rf_119_0, rf_119_1, rf_119_2, rf_119_3, rf_119_6, rf_119_7, rf_119_8, rf_119_9, rf_119_10, rf_119_11, rf_119_12, rf_119_13, rf_119_14, rf_119_37, rf_119_38, rf_119_39, rf_119_40, rf_119_41, rf_e, kW2_0, kW_0, kW_1, kW_2, kW_3, kWc_ap, J_add, J_sub, J_mul, wc_eq, wc_ne, wc_lt, wc_ge, wc_gt, wc_le, b_true, b_not_true, J_in, J_nat, J_max, J_min, J_abs, J_div, J_rem, J_z, J_o, J_ltz, J_ite, wUI_mk, wUC_mk, wUR_mk, if_true, if_false, and_true, true_and, and_self, List.length_cons, List.length_nil, List.all_cons, List.all_nil, wIR, List.cons_append, List.nil_append, List.append_nil, Bool.and_self, Bool.and_true, Bool.true_and, Int32.reduceToInt, Nat.le_refl, Nat.sub_self, List.replicate_zero, List.reduceReplicate, not_false_eq_true, not_true_eq_false, reduceCtorEq, true_or, or_true, or_false, false_or, Int.toNat_natCast, Nat.reduceEqDiff, Nat.reduceAdd, Nat.reduceSub, Nat.reduceMul, Nat.reduceLeDiff, Nat.zero_add, Int.reduceToNat, Int.reduceAdd, Int.reduceSub, Int.reduceMul, Int.reduceNeg, Int.reduceLT, Int.reduceLE, Int.reduceEq, ↓reduceIte, decide_true, decide_false, Bool.not_true, Bool.not_false, Bool.false_eq_true, tn_add, tn_mul, tn_sub, wb_ne, wb_eq, jb01, jb00, jb11, ji_0, ji_1, em_r, nn_r, Nat.add_sub_cancel, Nat.add_one_sub_one, add_neg1, nc_sub1, mU_same, mU_skip, h2, hf, e1]
set_option maxRecDepth 100000 in
set_option maxHeartbeats 1500000 in
theorem c_draw (h5 : m 31 5 = J (s 5)) {n : Nat} (hn : 1 ≤ n) (hn2 : n ≤ 100000) : PM (nX8_draw K SH) [.ref 31, .int (J n)] (m, RF e) Q = Q (some (.int (J (drawM (s 5) n)))) (mU m 31 5 (J (lcgM (s 5))), RF e) := by
  have e1 : ((s 5 : Int) * 1664525 + 1013904223) = ((lcgM (s 5) : Nat) : Int) := by unfold lcgM; omega
  have e2 : oRem (J ((lcgM (s 5) % 4294967296 / 256 : Nat) : Int)) (J n) = J (drawM (s 5) n) := by rw [J_rem (by omega) (by omega) (by omega) (by omega)]; rfl
  simp (disch := omega) only [nX8_draw, bX8_draw, wr_1, wr_2, wr_3, wr_4, wr_5, wr_6, wr_7, wr_8, wr_9, wr_10, wr_11, wr_12, wr_13, wr_14, wr_15, wr_16, wr_17, wr_18, wr_19, wr_20, wr_21, wr_22, wr_23, wr_24, wr_25, wr_26, wr_27, wr_28, wr_29, wr_30, wr_31, wr_32, wr_33, wr_34, wr_35, wr_36, wr_37, wr_38, wr_39, wr_40, wr_41, wr_42, wr_43, wr_44, wr_45, wr_46, wr_47, wr_48, wr_49, wr_50, wr_51, wr_52, wr_53, wr_54, wr_55, wr_56, wr_57, wr_58, wr_59, wr_60, wr_61, wr_62, wr_63, wr_64, wr_65, wr_66, wr_67, wr_68, wr_69, wr_70, wr_71, wr_72, wr_73, wr_74, wr_75, wr_76, wr_77, wr_78, wr_79, wr_80, wr_81, wr_82, wr_83, wr_84, wr_85, wr_86, wr_87, wr_88, wr_89, wr_90, wr_91, wr_92, wr_93, wr_94, wr_95, wr_96, wr_97, wr_98, wr_99, wr_100, wr_101, wr_102, wr_103, wr_104, wr_105, wr_106, wr_107, wr_108, wr_109, wr_110, wr_111, wr_112, wr_113, wr_114, wr_115, wr_116, wr_117, wr_118, wr_119, wr_120, wr_121, wr_den, wr_122, wr_123, wr_124, wr_125, wr_126, wr_127, wr_128, wr_129, wr_130, wr_131, wr_132, wr_133, wr_134, wr_135, wr_136, wr_137, wr_138, wr_139, wr_140, wr_141, wr_142, wr_143, wr_144, wr_145, wr_146, wr_147, wr_148, wr_149, wr_150, wr_151, wr_152, wr_153, wr_154, wr_155, wr_156, wr_157, wr_158, wr_159, wr_160, wr_161, wr_162, wr_163, wr_164, wr_165, wr_166, wr_167, wr_168, wr_169, wr_170, wr_171, wr_172, wr_173, wr_174, wr_175, wr_176, wr_177, wr_178, wr_179, wr_180, wr_181, wr_182, wr_183, wr_184, wr_185, wr_186, wr_187, wr_188, wr_189, wr_190, wr_191, wr_192, wr_193, wr_194, wr_195, wr_196, wr_197, wr_198, wr_199, wr_200, wr_201, wr_202, wr_203, wr_204, wr_205, wr_206, wsw_J, J_inj, wr_208, sh_0, sh_1, sh_2, sh_3, sh_4, sh_5, sh_6, sh_7, sh_8, sh_9, sh_10, sh_11, sh_12, sh_13, sh_14, sh_15, sh_16, sh_17, sh_18, sh_19, sh_20, sh_21, sh_22, sh_23, sh_24, sh_25, sh_26, sh_27, sh_28, sh_29, sh_30, sh_31, sh_32, sh_33, sh_34, sh_35, sh_36, sh_37, sh_38, sh_39, sh_40, sh_41, sh_42, sh_43, sh_44, sh_45, sh_46, sh_47, sh_48, sh_49, sh_50, sh_51, sh_52, sh_53, sh_54, sh_55, sh_56, sh_57, sh_58, sh_59, sh_60, sh_61, sh_62, sh_63, sh_64, sh_65, sh_66, sh_67, sh_68, sh_69, sh_70, sh_71, sh_72, sh_73, sh_74, sh_75, sh_76, sh_77, sh_78, sh_79, sh_80, sh_81, sh_82, sh_83, sh_84, sh_85, sh_86, sh_87, sh_88, sh_89, sh_90, sh_91, sh_92, sh_93, sh_94, sh_95, sh_96, sh_97, sh_98, sh_99, sh_100, sh_101, sh_102, sh_103, sh_104, sh_105, sh_106, sh_107, sh_108, sh_109, sh_110, sh_111, sh_112, sh_113, sh_114, sh_115, sh_116, sh_117, sh_118, sh_119, sh_120, sh_121, sh_122, sh_123, sh_124, sh_125, sh_126, sh_127, sh_128, sh_129, sh_130, sh_131, sh_132, sh_133, sh_134, sh_135, sh_136, sh_137, rf_0_0, rf_0_1, rf_0_2, rf_0_3, rf_0_4, rf_0_5, rf_0_6, rf_0_7, rf_0_8, rf_0_9, rf_0_10, rf_1_0, rf_1_2, rf_1_3, rf_1_4, rf_6_0, rf_6_1, rf_6_2, rf_6_3, rf_6_4, rf_6_5, rf_6_9, rf_6_10, rf_7_3, rf_7_4, rf_7_5, rf_7_6, rf_7_7, rf_12_0, rf_12_1, rf_15_1, rf_15_2, rf_15_3, rf_15_4, rf_15_5, rf_15_7, rf_22_1, rf_22_2, rf_22_3, rf_22_4, rf_27_1, rf_29_0, rf_31_7, rf_35_0, rf_35_1, rf_35_2, rf_35_3, rf_35_4, rf_35_5, rf_35_9, rf_35_10, rf_36_3, rf_36_4, rf_36_5, rf_36_6, rf_36_7, rf_41_0, rf_41_1, rf_44_1, rf_44_2, rf_44_3, rf_44_4, rf_44_5, rf_44_7, rf_51_1, rf_51_2, rf_51_3, rf_51_4, rf_56_1, rf_58_0, rf_60_7, rf_64_3, rf_64_4, rf_64_5, rf_64_6, rf_64_7, rf_69_0, rf_69_1, rf_72_1, rf_72_2, rf_72_3, rf_72_4, rf_72_5, rf_72_7, rf_79_1, rf_79_2, rf_79_3, rf_79_4, rf_84_1, rf_86_0, rf_86_1, rf_86_2, rf_86_3, rf_88_0, rf_88_1, rf_88_2, rf_92_0, rf_92_1, rf_92_2, rf_97_0, rf_97_1, rf_97_7, rf_97_8, rf_102_2, rf_102_3, rf_102_4, rf_107_7, rf_109_7, rf_111_7, rf_113_7, rf_115_7, rf_117_7, rf_119_0, rf_119_1, rf_119_2, rf_119_3, rf_119_6, rf_119_7, rf_119_8, rf_119_9, rf_119_10, rf_119_11, rf_119_12, rf_119_13, rf_119_14, rf_119_37, rf_119_38, rf_119_39, rf_119_40, rf_119_41, rf_e, kW2_0, kW_0, kW_1, kW_2, kW_3, kWc_ap, J_add, J_sub, J_mul, wc_eq, wc_ne, wc_lt, wc_ge, wc_gt, wc_le, b_true, b_not_true, J_in, J_nat, J_max, J_min, J_abs, J_div, J_rem, J_z, J_o, J_ltz, J_ite, wUI_mk, wUC_mk, wUR_mk, if_true, if_false, and_true, true_and, and_self, List.length_cons, List.length_nil, List.all_cons, List.all_nil, wIR, List.cons_append, List.nil_append, List.append_nil, Bool.and_self, Bool.and_true, Bool.true_and, Int32.reduceToInt, Nat.le_refl, Nat.sub_self, List.replicate_zero, List.reduceReplicate, not_false_eq_true, not_true_eq_false, reduceCtorEq, true_or, or_true, or_false, false_or, Int.toNat_natCast, Nat.reduceEqDiff, Nat.reduceAdd, Nat.reduceSub, Nat.reduceMul, Nat.reduceLeDiff, Nat.zero_add, Int.reduceToNat, Int.reduceAdd, Int.reduceSub, Int.reduceMul, Int.reduceNeg, Int.reduceLT, Int.reduceLE, Int.reduceEq, ↓reduceIte, decide_true, decide_false, Bool.not_true, Bool.not_false, Bool.false_eq_true, tn_add, tn_mul, tn_sub, wb_ne, wb_eq, jb01, jb00, jb11, ji_0, ji_1, em_r, nn_r, Nat.add_sub_cancel, Nat.add_one_sub_one, add_neg1, nc_sub1, mU_same, mU_skip, h5, e1, J_ushr8, e2, if_pos (show (0 : Int) < (n : Int) by omega)]
  exact propext ⟨fun h => h.2, fun h => ⟨by omega, h⟩⟩
set_option maxRecDepth 100000 in
set_option maxHeartbeats 1500000 in
theorem c_note (hM : MvK s m) (hb : s 6 ≤ 150) (a b : Nat) : PM (nX1_note K SH) [.ref 29, .ref 31, .int (J a), .int (J b)] (m, RF e) (fun r u => r = none ∧ ∃ m', u = (m', RF e) ∧ MvK (noteM s a b) m' ∧ ∀ c, c ≠ 30 → c ≠ 31 → m' c = m c) := by
  obtain ⟨a0, a1, a2, a3, a4, a5, a6⟩ := hM.2.1
  simp (disch := omega) only [nX1_note, bX1_note, wr_1, wr_2, wr_3, wr_4, wr_5, wr_6, wr_7, wr_8, wr_9, wr_10, wr_11, wr_12, wr_13, wr_14, wr_15, wr_16, wr_17, wr_18, wr_19, wr_20, wr_21, wr_22, wr_23, wr_24, wr_25, wr_26, wr_27, wr_28, wr_29, wr_30, wr_31, wr_32, wr_33, wr_34, wr_35, wr_36, wr_37, wr_38, wr_39, wr_40, wr_41, wr_42, wr_43, wr_44, wr_45, wr_46, wr_47, wr_48, wr_49, wr_50, wr_51, wr_52, wr_53, wr_54, wr_55, wr_56, wr_57, wr_58, wr_59, wr_60, wr_61, wr_62, wr_63, wr_64, wr_65, wr_66, wr_67, wr_68, wr_69, wr_70, wr_71, wr_72, wr_73, wr_74, wr_75, wr_76, wr_77, wr_78, wr_79, wr_80, wr_81, wr_82, wr_83, wr_84, wr_85, wr_86, wr_87, wr_88, wr_89, wr_90, wr_91, wr_92, wr_93, wr_94, wr_95, wr_96, wr_97, wr_98, wr_99, wr_100, wr_101, wr_102, wr_103, wr_104, wr_105, wr_106, wr_107, wr_108, wr_109, wr_110, wr_111, wr_112, wr_113, wr_114, wr_115, wr_116, wr_117, wr_118, wr_119, wr_120, wr_121, wr_den, wr_122, wr_123, wr_124, wr_125, wr_126, wr_127, wr_128, wr_129, wr_130, wr_131, wr_132, wr_133, wr_134, wr_135, wr_136, wr_137, wr_138, wr_139, wr_140, wr_141, wr_142, wr_143, wr_144, wr_145, wr_146, wr_147, wr_148, wr_149, wr_150, wr_151, wr_152, wr_153, wr_154, wr_155, wr_156, wr_157, wr_158, wr_159, wr_160, wr_161, wr_162, wr_163, wr_164, wr_165, wr_166, wr_167, wr_168, wr_169, wr_170, wr_171, wr_172, wr_173, wr_174, wr_175, wr_176, wr_177, wr_178, wr_179, wr_180, wr_181, wr_182, wr_183, wr_184, wr_185, wr_186, wr_187, wr_188, wr_189, wr_190, wr_191, wr_192, wr_193, wr_194, wr_195, wr_196, wr_197, wr_198, wr_199, wr_200, wr_201, wr_202, wr_203, wr_204, wr_205, wr_206, wsw_J, J_inj, wr_208, sh_0, sh_1, sh_2, sh_3, sh_4, sh_5, sh_6, sh_7, sh_8, sh_9, sh_10, sh_11, sh_12, sh_13, sh_14, sh_15, sh_16, sh_17, sh_18, sh_19, sh_20, sh_21, sh_22, sh_23, sh_24, sh_25, sh_26, sh_27, sh_28, sh_29, sh_30, sh_31, sh_32, sh_33, sh_34, sh_35, sh_36, sh_37, sh_38, sh_39, sh_40, sh_41, sh_42, sh_43, sh_44, sh_45, sh_46, sh_47, sh_48, sh_49, sh_50, sh_51, sh_52, sh_53, sh_54, sh_55, sh_56, sh_57, sh_58, sh_59, sh_60, sh_61, sh_62, sh_63, sh_64, sh_65, sh_66, sh_67, sh_68, sh_69, sh_70, sh_71, sh_72, sh_73, sh_74, sh_75, sh_76, sh_77, sh_78, sh_79, sh_80, sh_81, sh_82, sh_83, sh_84, sh_85, sh_86, sh_87, sh_88, sh_89, sh_90, sh_91, sh_92, sh_93, sh_94, sh_95, sh_96, sh_97, sh_98, sh_99, sh_100, sh_101, sh_102, sh_103, sh_104, sh_105, sh_106, sh_107, sh_108, sh_109, sh_110, sh_111, sh_112, sh_113, sh_114, sh_115, sh_116, sh_117, sh_118, sh_119, sh_120, sh_121, sh_122, sh_123, sh_124, sh_125, sh_126, sh_127, sh_128, sh_129, sh_130, sh_131, sh_132, sh_133, sh_134, sh_135, sh_136, sh_137, rf_0_0, rf_0_1, rf_0_2, rf_0_3, rf_0_4, rf_0_5, rf_0_6, rf_0_7, rf_0_8, rf_0_9, rf_0_10, rf_1_0, rf_1_2, rf_1_3, rf_1_4, rf_6_0, rf_6_1, rf_6_2, rf_6_3, rf_6_4, rf_6_5, rf_6_9, rf_6_10, rf_7_3, rf_7_4, rf_7_5, rf_7_6, rf_7_7, rf_12_0, rf_12_1, rf_15_1, rf_15_2, rf_15_3, rf_15_4, rf_15_5, rf_15_7, rf_22_1, rf_22_2, rf_22_3, rf_22_4, rf_27_1, rf_29_0, rf_31_7, rf_35_0, rf_35_1, rf_35_2, rf_35_3, rf_35_4, rf_35_5, rf_35_9, rf_35_10, rf_36_3, rf_36_4, rf_36_5, rf_36_6, rf_36_7, rf_41_0, rf_41_1, rf_44_1, rf_44_2, rf_44_3, rf_44_4, rf_44_5, rf_44_7, rf_51_1, rf_51_2, rf_51_3, rf_51_4, rf_56_1, rf_58_0, rf_60_7, rf_64_3, rf_64_4, rf_64_5, rf_64_6, rf_64_7, rf_69_0, rf_69_1, rf_72_1, rf_72_2, rf_72_3, rf_72_4, rf_72_5, rf_72_7, rf_79_1, rf_79_2, rf_79_3, rf_79_4, rf_84_1, rf_86_0, rf_86_1, rf_86_2, rf_86_3, rf_88_0, rf_88_1, rf_88_2, rf_92_0, rf_92_1, rf_92_2, rf_97_0, rf_97_1, rf_97_7, rf_97_8, rf_102_2, rf_102_3, rf_102_4, rf_107_7, rf_109_7, rf_111_7, rf_113_7, rf_115_7, rf_117_7, rf_119_0, rf_119_1, rf_119_2, rf_119_3, rf_119_6, rf_119_7, rf_119_8, rf_119_9, rf_119_10, rf_119_11, rf_119_12, rf_119_13, rf_119_14, rf_119_37, rf_119_38, rf_119_39, rf_119_40, rf_119_41, rf_e, kW2_0, kW_0, kW_1, kW_2, kW_3, kWc_ap, J_add, J_sub, J_mul, wc_eq, wc_ne, wc_lt, wc_ge, wc_gt, wc_le, b_true, b_not_true, J_in, J_nat, J_max, J_min, J_abs, J_div, J_rem, J_z, J_o, J_ltz, J_ite, wUI_mk, wUC_mk, wUR_mk, if_true, if_false, and_true, true_and, and_self, List.length_cons, List.length_nil, List.all_cons, List.all_nil, wIR, List.cons_append, List.nil_append, List.append_nil, Bool.and_self, Bool.and_true, Bool.true_and, Int32.reduceToInt, Nat.le_refl, Nat.sub_self, List.replicate_zero, List.reduceReplicate, not_false_eq_true, not_true_eq_false, reduceCtorEq, true_or, or_true, or_false, false_or, Int.toNat_natCast, Nat.reduceEqDiff, Nat.reduceAdd, Nat.reduceSub, Nat.reduceMul, Nat.reduceLeDiff, Nat.zero_add, Int.reduceToNat, Int.reduceAdd, Int.reduceSub, Int.reduceMul, Int.reduceNeg, Int.reduceLT, Int.reduceLE, Int.reduceEq, ↓reduceIte, decide_true, decide_false, Bool.not_true, Bool.not_false, Bool.false_eq_true, tn_add, tn_mul, tn_sub, wb_ne, wb_eq, jb01, jb00, jb11, ji_0, ji_1, em_r, nn_r, Nat.add_sub_cancel, Nat.add_one_sub_one, add_neg1, nc_sub1, mU_same, mU_skip, a6, a4, a1]
  unfold noteM
  rw [if_neg (by omega)]
  refine iteI (fun c => ?_) (fun c => ?_)
  · rw [if_pos (by omega)]
    exact ⟨m, rfl, hM, fun _ _ _ => rfl⟩
  · rw [if_neg (by omega)]
    refine ⟨_, rfl, ?_, fun c h1 h2 => ?_⟩
    · refine MvK.to (((((hM.book (j := s 6 * 4) (v := s 4) (by omega) rfl).book (j := s 6 * 4 + 1) (v := a) (by omega) rfl).book (j := s 6 * 4 + 2) (v := b) (by omega) rfl).book (j := s 6 * 4 + 3) (v := s 1) (by omega) rfl).put (i := 6) (v := s 6 + 1) (by omega) rfl) ?_
      simp only [Nat.mul_comm (s 6) 4, Nat.add_assoc]
    · rw [mU_ne (by omega), mU_ne (by omega), mU_ne (by omega), mU_ne (by omega), mU_ne (by omega)]
end C7
