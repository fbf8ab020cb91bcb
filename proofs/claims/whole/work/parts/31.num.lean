/-! NUMBERS: an int of Java as J of an Int -/
theorem J_of (x : Int) : Int32.ofInt x = J x := rfl
theorem J_toInt {a : Int} (h1 : -2147483648 ≤ a) (h2 : a < 2147483648) : (J a).toInt = a := Int32.toInt_ofInt_of_le (by omega) (by omega)
theorem J_nat {a : Int} (h1 : -2147483648 ≤ a) (h2 : a < 2147483648) : (J a).toNatClampNeg = a.toNat := Int32.toNatClampNeg_ofInt_of_le (by omega) (by omega)
theorem J_add (a b : Int) : oAdd (J a) (J b) = J (a + b) := (Int32.ofInt_add a b).symm
theorem J_inc (a b : Int) : J a + J b = J (a + b) := (Int32.ofInt_add a b).symm
theorem J_sub (a b : Int) : oSub (J a) (J b) = J (a - b) := (Int32.ofInt_sub a b).symm
theorem J_mul (a b : Int) : oMul (J a) (J b) = J (a * b) := (Int32.ofInt_mul a b).symm
theorem J_inj {a b : Int} (h1 : -2147483648 ≤ a) (h2 : a < 2147483648) (h3 : -2147483648 ≤ b) (h4 : b < 2147483648) : (J a = J b) = (a = b) := by
  refine propext ⟨fun h => ?_, fun h => by rw [h]⟩
  have e := congrArg Int32.toInt h
  rw [J_toInt h1 h2, J_toInt h3 h4] at e
  exact e
theorem J_lt {a b : Int} (h1 : -2147483648 ≤ a) (h2 : a < 2147483648) (h3 : -2147483648 ≤ b) (h4 : b < 2147483648) : (J a < J b) = (a < b) := by
  rw [Int32.lt_iff_toInt_lt, J_toInt h1 h2, J_toInt h3 h4]
theorem J_le {a b : Int} (h1 : -2147483648 ≤ a) (h2 : a < 2147483648) (h3 : -2147483648 ≤ b) (h4 : b < 2147483648) : (J a ≤ J b) = (a ≤ b) := by
  rw [Int32.le_iff_toInt_le, J_toInt h1 h2, J_toInt h3 h4]
theorem b_not_true {p : Prop} (h : Decidable p) : ((!@decide p h) = true) = ¬ p := by by_cases q : p <;> simp [q]
theorem b_true {p : Prop} (h : Decidable p) : (@decide p h = true) = p := by by_cases q : p <;> simp [q]
theorem wc_eq {a b : Int} (h1 : -2147483648 ≤ a) (h2 : a < 2147483648) (h3 : -2147483648 ≤ b) (h4 : b < 2147483648) : wcmp .eq (J a) (J b) = decide (a = b) := by
  show decide (J a = J b) = _
  simp only [J_inj h1 h2 h3 h4]
theorem wc_ne {a b : Int} (h1 : -2147483648 ≤ a) (h2 : a < 2147483648) (h3 : -2147483648 ≤ b) (h4 : b < 2147483648) : wcmp .ne (J a) (J b) = decide (¬ a = b) := by
  show (!decide (J a = J b)) = _
  simp only [J_inj h1 h2 h3 h4, decide_not]
theorem wc_lt {a b : Int} (h1 : -2147483648 ≤ a) (h2 : a < 2147483648) (h3 : -2147483648 ≤ b) (h4 : b < 2147483648) : wcmp .lt (J a) (J b) = decide (a < b) := by
  show decide (J a < J b) = _
  simp only [J_lt h1 h2 h3 h4]
theorem wc_ge {a b : Int} (h1 : -2147483648 ≤ a) (h2 : a < 2147483648) (h3 : -2147483648 ≤ b) (h4 : b < 2147483648) : wcmp .ge (J a) (J b) = decide (b ≤ a) := by
  show decide (J b ≤ J a) = _
  simp only [J_le h3 h4 h1 h2]
theorem wc_gt {a b : Int} (h1 : -2147483648 ≤ a) (h2 : a < 2147483648) (h3 : -2147483648 ≤ b) (h4 : b < 2147483648) : wcmp .gt (J a) (J b) = decide (b < a) := by
  show decide (J b < J a) = _
  simp only [J_lt h3 h4 h1 h2]
theorem wc_le {a b : Int} (h1 : -2147483648 ≤ a) (h2 : a < 2147483648) (h3 : -2147483648 ≤ b) (h4 : b < 2147483648) : wcmp .le (J a) (J b) = decide (a ≤ b) := by
  show decide (J a ≤ J b) = _
  simp only [J_le h1 h2 h3 h4]
theorem J_in {a : Int} {n : Nat} (h1 : 0 ≤ a) (h2 : a < n) (h3 : a < 2147483648) : wIn (J a) n = true := by
  unfold wIn
  have e : (0 : Int32) = J 0 := rfl
  rw [J_nat (by omega) h3, e]
  simp only [J_lt (a := a) (b := 0) (by omega) h3 (by omega) (by omega)]
  simp only [Bool.and_eq_true, Bool.not_eq_true', decide_eq_false_iff_not, decide_eq_true_eq]
  omega
theorem J_z {a : Int} (h1 : -2147483648 ≤ a) (h2 : a < 2147483648) : (J a = 0) = (a = 0) := J_inj (b := 0) h1 h2 (by omega) (by omega)
theorem J_o {a : Int} (h1 : -2147483648 ≤ a) (h2 : a < 2147483648) : (J a = 1) = (a = 1) := J_inj (b := 1) h1 h2 (by omega) (by omega)
theorem J_ltz {a : Int} (h1 : -2147483648 ≤ a) (h2 : a < 2147483648) : (J a < 0) = (a < 0) := J_lt (b := 0) h1 h2 (by omega) (by omega)
theorem J_ite (c : Prop) (hc : Decidable c) (a b : Int) : @ite _ c hc (J a) (J b) = J (@ite _ c hc a b) := by by_cases h : c <;> simp [h]
theorem J_max {a b : Int} (h1 : -2147483648 ≤ a) (h2 : a < 2147483648) (h3 : -2147483648 ≤ b) (h4 : b < 2147483648) : oMax (J a) (J b) = J (max a b) := by
  unfold oMax
  simp only [J_lt h1 h2 h3 h4, J_ite]
  congr 1
  by_cases h : a < b
  · rw [if_pos h]; omega
  · rw [if_neg h]; omega
theorem J_min {a b : Int} (h1 : -2147483648 ≤ a) (h2 : a < 2147483648) (h3 : -2147483648 ≤ b) (h4 : b < 2147483648) : oMin (J a) (J b) = J (min a b) := by
  unfold oMin
  simp only [J_lt h3 h4 h1 h2, J_ite]
  congr 1
  by_cases h : b < a
  · rw [if_pos h]; omega
  · rw [if_neg h]; omega
theorem J_neg (a : Int) : - J a = J (-a) := (Int32.ofInt_neg a).symm
theorem J_abs {a : Int} (h1 : -2147483648 ≤ a) (h2 : a < 2147483648) : oAbs (J a) = J a.natAbs := by
  unfold oAbs
  have e : (0 : Int32) = J 0 := rfl
  rw [e]
  simp only [J_le (a := 0) (b := a) (by omega) (by omega) h1 h2]
  have e2 : J 0 - J a = J (0 - a) := (Int32.ofInt_sub 0 a).symm
  rw [e2, J_ite]
  congr 1
  by_cases h : 0 ≤ a
  · rw [if_pos h]; omega
  · rw [if_neg h]; omega
theorem J_div {a b : Int} (h1 : 0 ≤ a) (h2 : a < 2147483648) (h3 : 0 ≤ b) (h4 : b < 2147483648) : oDiv (J a) (J b) = J (a / b) := by
  unfold oDiv J
  rw [← Int32.ofInt_tdiv (by show (-2147483648 : Int) ≤ a; omega) (by show a ≤ (2147483647 : Int); omega) (by show (-2147483648 : Int) ≤ b; omega) (by show b ≤ (2147483647 : Int); omega), Int.tdiv_eq_ediv_of_nonneg h1]
theorem J_rem {a b : Int} (h1 : 0 ≤ a) (h2 : a < 2147483648) (h3 : 0 ≤ b) (h4 : b < 2147483648) : oRem (J a) (J b) = J (a % b) := by
  have h := J_div h1 h2 h3 h4
  unfold oDiv at h
  unfold oRem
  rw [h]
  have e := J_mul (a / b) b
  unfold oMul at e
  rw [e]
  have e2 := J_sub a (a / b * b)
  unfold oSub at e2
  rw [e2]
  congr 1
  rw [Int.emod_def, Int.mul_comm]
theorem tn_add {a b : Int} (h1 : 0 ≤ a) (h2 : 0 ≤ b) : (a + b).toNat = a.toNat + b.toNat := Int.toNat_add h1 h2
theorem tn_mul {a b : Int} (h1 : 0 ≤ a) (h2 : 0 ≤ b) : (a * b).toNat = a.toNat * b.toNat := Int.toNat_mul h1 h2
theorem tn_sub {a b : Int} (h2 : 0 ≤ b) : (a - b).toNat = a.toNat - b.toNat := by omega
theorem wb_ne {c : Prop} (h : Decidable c) : wcmp .ne (J (@ite _ c h 1 0)) (J 0) = @decide c h := by by_cases q : c <;> simp [q] <;> decide
theorem wb_eq {c : Prop} (h : Decidable c) : wcmp .eq (J (@ite _ c h 1 0)) (J 0) = !@decide c h := by by_cases q : c <;> simp [q] <;> decide
theorem jb01 {c : Prop} (h : Decidable c) : (J (@ite _ c h 1 0) = 0 ∨ J (@ite _ c h 1 0) = 1) = True := by by_cases q : c <;> simp [q] <;> decide
theorem ji_0 {c : Prop} (h : Decidable c) : ((@ite _ c h 1 0 : Int) = 0) = ¬ c := by by_cases q : c <;> simp [q]
theorem ji_1 {c : Prop} (h : Decidable c) : ((@ite _ c h 1 0 : Int) = 1) = c := by by_cases q : c <;> simp [q]
theorem em_r (c : Prop) : (¬ c ∨ c) = True := by by_cases q : c <;> simp [q]
theorem nn_r (c : Prop) : (¬ ¬ c) = c := by by_cases q : c <;> simp [q]
theorem iteI {c : Prop} {hc : Decidable c} {A B : Prop} (h1 : c → A) (h2 : ¬ c → B) : @ite _ c hc A B := by
  by_cases q : c
  · rw [if_pos q]; exact h1 q
  · rw [if_neg q]; exact h2 q
theorem add_neg1 (a : Int) : a + -1 = a - 1 := rfl
theorem nc_sub1 (n : Nat) : ((n + 1 : Nat) : Int) - 1 = (n : Int) := by omega
theorem mU_same (m : wMm) (c i : Nat) (v : Int32) : mU m c i v c i = v := by rw [mU_at, if_pos rfl, if_pos rfl]
theorem mU_skip {m : wMm} {c i : Nat} {v : Int32} {c' j : Nat} (h : c' ≠ c ∨ j ≠ i) : mU m c i v c' j = m c' j := by
  rw [mU_at]
  by_cases q : c' = c
  · rw [if_pos q, if_neg (h.resolve_left (fun n => n q)), q]
  · rw [if_neg q]
theorem J_remneg {a b : Int} (h1 : -2147483648 < a) (h2 : a < 0) (h3 : 0 < b) (h4 : b < 2147483648) : oRem (J a) (J b) = J (-((-a) % b)) := by
  have hd : oDiv (J a) (J b) = J (-((-a) / b)) := by
    unfold oDiv J
    rw [← Int32.ofInt_tdiv (by show (-2147483648 : Int) ≤ a; omega) (by show a ≤ (2147483647 : Int); omega) (by show (-2147483648 : Int) ≤ b; omega) (by show b ≤ (2147483647 : Int); omega)]
    congr 1
    rw [← Int.tdiv_eq_ediv_of_nonneg (by omega : 0 ≤ -a), Int.neg_tdiv, Int.neg_neg]
  unfold oDiv at hd
  unfold oRem
  rw [hd]
  have e := J_mul (-((-a) / b)) b
  unfold oMul at e
  rw [e]
  have e2 := J_sub a (-((-a) / b) * b)
  unfold oSub at e2
  rw [e2]
  congr 1
  have := Int.emod_def (-a) b
  rw [this, Int.mul_comm b, Int.neg_mul]
  omega
theorem J_ushr8 (n : Nat) : oUshr (J (n : Int)) (J 8) = J ((n % 4294967296 / 256 : Nat) : Int) := by
  rw [← J_ofNat, ← J_ofNat]
  have e8 : (J 8).toUInt32 &&& Int32.toUInt32 31 = 8 := by decide
  unfold oUshr
  rw [e8]
  show (UInt32.ofNat n >>> 8).toInt32 = (UInt32.ofNat (n % 4294967296 / 256)).toInt32
  congr 1
  apply UInt32.toNat_inj.mp
  rw [UInt32.toNat_shiftRight, UInt32.toNat_ofNat', UInt32.toNat_ofNat', show (8 : UInt32).toNat % 32 = 8 from rfl, Nat.shiftRight_eq_div_pow]
  omega
theorem jb00 : (J 0 = 0) = True := by decide
theorem jb11 : (J 1 = 1) = True := by decide
/-! loops -/
def kW2 (R : wL → wS → Prop) : kS := fun k _ ls t => k = 0 ∧ R ls t
def kW (u : wSt) (R : wL → wS → Prop) (Q : kS) : kS := fun k a ls t => if k = 1 then Q 0 none ls t else if k = 3 then Q 3 a ls t else PS u ls t (kW2 R)
def kWc (p : Prop) (b u : wSt) (R : wL → wS → Prop) (ls : wL) (Q : kS) : Bool → wS → Prop := fun v t => if v = true then p ∧ PS b ls t (kW u R Q) else Q 0 none ls t
theorem kW2_0 (R : wL → wS → Prop) (a : Option Value) (ls : wL) (t : wS) : kW2 R 0 a ls t = R ls t := by simp [kW2]
theorem kW_0 (u : wSt) (R : wL → wS → Prop) (Q : kS) (a : Option Value) (ls : wL) (t : wS) : kW u R Q 0 a ls t = PS u ls t (kW2 R) := rfl
theorem kW_1 (u : wSt) (R : wL → wS → Prop) (Q : kS) (a : Option Value) (ls : wL) (t : wS) : kW u R Q 1 a ls t = Q 0 none ls t := rfl
theorem kW_2 (u : wSt) (R : wL → wS → Prop) (Q : kS) (a : Option Value) (ls : wL) (t : wS) : kW u R Q 2 a ls t = PS u ls t (kW2 R) := rfl
theorem kW_3 (u : wSt) (R : wL → wS → Prop) (Q : kS) (a : Option Value) (ls : wL) (t : wS) : kW u R Q 3 a ls t = Q 3 a ls t := rfl
theorem kWc_ap (p : Prop) (b u : wSt) (R : wL → wS → Prop) (ls : wL) (Q : kS) (v : Bool) (t : wS) : kWc p b u R ls Q v t = if v = true then p ∧ PS b ls t (kW u R Q) else Q 0 none ls t := rfl
def wLt (n : Nat) (I : Nat → wL → wS → Prop) : wL → wS → Prop := fun ls t => ∃ n' < n, I n' ls t
/-- a loop whose measure falls -/
theorem PS_wh {c : wC} {b u : wSt} {Q : kS} (I : Nat → wL → wS → Prop)
    (h : ∀ n ls t, I n ls t → PC c ls t (kWc True b u (wLt n I) ls Q)) : ∀ (K n : Nat) (ls : wL) (t : wS), n < K → I n ls t → PS (sWh c b u K) ls t Q
  | 0, n, ls, t, hn, _ => absurd hn (Nat.not_lt_zero n)
  | K + 1, n, ls, t, hn, hi => by
    obtain ⟨⟨v, t1⟩, h1, h2⟩ := h n ls t hi
    unfold PS
    show EX ((c ls t).bind _) _
    rw [EX_bind, h1, EX_some]
    dsimp only at h2 ⊢
    cases v with
    | false => exact ⟨_, rfl, h2⟩
    | true =>
      obtain ⟨-, ⟨k, a, ls2, t2⟩, h3, h4⟩ := (show True ∧ PS b ls t1 (kW u (wLt n I) Q) from h2)
      simp only [if_true]
      rw [EX_bind, h3, EX_some]
      dsimp only at h4 ⊢
      unfold kW at h4
      by_cases e1 : k = 1
      · rw [if_pos e1] at h4 ⊢
        exact ⟨_, rfl, h4⟩
      · rw [if_neg e1] at h4 ⊢
        by_cases e3 : k = 3
        · rw [if_pos e3] at h4 ⊢
          subst e3
          exact ⟨_, rfl, h4⟩
        · rw [if_neg e3] at h4 ⊢
          obtain ⟨⟨k', a', ls3, t3⟩, h5, h6, n', h7, h8⟩ := h4
          rw [EX_bind, h5, EX_some]
          dsimp only at h6 h8 ⊢
          rw [if_pos h6]
          exact PS_wh I h K n' ls3 t3 (by omega) h8
/-- a loop that counts up -/
theorem PS_up {c : wC} {b u : wSt} {Q : kS} (N : Nat) (I : Nat → wL → wS → Prop)
    (h : ∀ i ls t, I i ls t → PC c ls t (kWc (i < N) b u (I (i + 1)) ls Q)) {K : Nat} {ls : wL} {t : wS} (hK : N < K) (h0 : I 0 ls t) : PS (sWh c b u K) ls t Q := by
  refine PS_wh (fun n ls t => ∃ i, n = N - i ∧ I i ls t) ?_ K N ls t hK ⟨0, rfl, h0⟩
  rintro n ls t ⟨i, rfl, hi⟩
  refine EX_mono (h i ls t hi) (fun p hp => ?_)
  obtain ⟨v, t1⟩ := p
  dsimp only at hp ⊢
  cases v with
  | false => exact hp
  | true =>
    obtain ⟨hN, hp⟩ := (show i < N ∧ PS b ls t1 (kW u (I (i + 1)) Q) from hp)
    refine (show True ∧ PS b ls t1 (kW u _ Q) from ⟨trivial, ?_⟩)
    refine PS_mono hp (fun k a ls2 t2 hk => ?_)
    unfold kW at hk ⊢
    by_cases e1 : k = 1
    · rw [if_pos e1] at hk ⊢
      exact hk
    · rw [if_neg e1] at hk ⊢
      by_cases e3 : k = 3
      · rw [if_pos e3] at hk ⊢
        exact hk
      · rw [if_neg e3] at hk ⊢
        exact PS_mono hk (fun k' _ ls3 t3 hh => ⟨hh.1, N - (i + 1), by omega, i + 1, rfl, hh.2⟩)
