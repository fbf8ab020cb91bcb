/-! bits -/
theorem Jn_bv (n : Nat) : (J (n : Int)).toBitVec = BitVec.ofNat 32 n := by
  rw [← J_ofNat]
  rfl
theorem Jn_ext {x : Int32} {n : Nat} (h : x.toBitVec.toNat = n % 4294967296) : x = J (n : Int) := by
  apply Int32.toBitVec.inj
  rw [Jn_bv]
  apply BitVec.eq_of_toNat_eq
  rw [h, BitVec.toNat_ofNat]
theorem Jn_nat {n : Nat} (h : n < 4294967296) : (J (n : Int)).toBitVec.toNat = n := by
  rw [Jn_bv, BitVec.toNat_ofNat]
  exact Nat.mod_eq_of_lt h
theorem J_and {a b : Nat} (h1 : a < 2147483648) (h2 : b < 2147483648) : oAnd (J (a : Int)) (J (b : Int)) = J ((a &&& b : Nat) : Int) := by
  apply Jn_ext
  show ((J (a : Int)).toBitVec &&& (J (b : Int)).toBitVec).toNat = _
  rw [BitVec.toNat_and, Jn_nat (by omega), Jn_nat (by omega)]
  have := @Nat.and_le_left a b
  exact (Nat.mod_eq_of_lt (by omega)).symm
theorem or_lt31 {a b : Nat} (h1 : a < 2147483648) (h2 : b < 2147483648) : a ||| b < 2147483648 := Nat.or_lt_two_pow (n := 31) h1 h2
theorem J_or {a b : Nat} (h1 : a < 2147483648) (h2 : b < 2147483648) : oOr (J (a : Int)) (J (b : Int)) = J ((a ||| b : Nat) : Int) := by
  apply Jn_ext
  show ((J (a : Int)).toBitVec ||| (J (b : Int)).toBitVec).toNat = _
  rw [BitVec.toNat_or, Jn_nat (by omega), Jn_nat (by omega)]
  have := or_lt31 h1 h2
  exact (Nat.mod_eq_of_lt (by omega)).symm
theorem shl_one {i : Nat} (h : i < 31) : oShl (J 1) (J (i : Int)) = J ((2 ^ i : Nat) : Int) := by
  have h2 : ∀ i : Fin 31, oShl (J 1) (J ((i : Nat) : Int)) = J ((2 ^ (i : Nat) : Nat) : Int) := by decide
  exact h2 ⟨i, h⟩
theorem two_pow_lt {i : Nat} (h : i < 31) : 2 ^ i < 2147483648 := Nat.pow_lt_pow_right (a := 2) (by omega) (m := i) (n := 31) h
theorem J_shr {a i : Nat} (h1 : a < 2147483648) (h2 : i < 32) : oShr (J (a : Int)) (J (i : Int)) = J ((a / 2 ^ i : Nat) : Int) := by
  apply Jn_ext
  unfold oShr
  have hi : ((J (i : Int)) &&& 31) = J (i : Int) := by
    have h3 : ∀ i : Fin 32, ((J ((i : Nat) : Int)) &&& 31) = J ((i : Nat) : Int) := by decide
    exact h3 ⟨i, h2⟩
  rw [hi]
  show ((J (a : Int)).toBitVec.sshiftRight' (((J (i : Int)).toBitVec.smod 32))).toNat = _
  have hs : (J (i : Int)).toBitVec.smod 32 = BitVec.ofNat 32 i := by
    have h3 : ∀ i : Fin 32, (J ((i : Nat) : Int)).toBitVec.smod 32 = BitVec.ofNat 32 (i : Nat) := by decide
    exact h3 ⟨i, h2⟩
  rw [hs]
  have hn : (BitVec.ofNat 32 i).toNat = i := by rw [BitVec.toNat_ofNat]; exact Nat.mod_eq_of_lt (by omega)
  rw [BitVec.sshiftRight_eq', hn]
  have hm : (J (a : Int)).toBitVec.msb = false := by
    rw [BitVec.msb_eq_decide, Jn_nat (by omega)]
    simp only [decide_eq_false_iff_not]
    omega
  rw [BitVec.sshiftRight_eq_of_msb_false hm, BitVec.toNat_ushiftRight, Jn_nat (by omega), Nat.shiftRight_eq_div_pow]
  have := Nat.div_le_self a (2 ^ i)
  exact (Nat.mod_eq_of_lt (by omega)).symm
theorem J_andnot {a b : Nat} (h1 : a < 2147483648) (h2 : b < 2147483648) : oAnd (J (a : Int)) (oXor (J (b : Int)) (J (-1))) = J ((a ^^^ (a &&& b) : Nat) : Int) := by
  apply Jn_ext
  have e2 : (J (-1)).toBitVec = BitVec.allOnes 32 := by decide
  show ((J (a : Int)).toBitVec &&& ((J (b : Int)).toBitVec ^^^ (J (-1)).toBitVec)).toNat = _
  rw [e2]
  have e3 : (J (a : Int)).toBitVec &&& ((J (b : Int)).toBitVec ^^^ BitVec.allOnes 32) = (J (a : Int)).toBitVec ^^^ ((J (a : Int)).toBitVec &&& (J (b : Int)).toBitVec) := by
    apply BitVec.eq_of_getLsbD_eq
    intro i hi
    simp only [BitVec.getLsbD_and, BitVec.getLsbD_xor, BitVec.getLsbD_allOnes, hi, decide_true]
    cases (J (a : Int)).toBitVec.getLsbD i <;> cases (J (b : Int)).toBitVec.getLsbD i <;> rfl
  rw [e3, BitVec.toNat_xor, BitVec.toNat_and, Jn_nat (by omega), Jn_nat (by omega)]
  have h3 : a &&& b < 2147483648 := Nat.lt_of_le_of_lt Nat.and_le_left h1
  have h4 : a ^^^ (a &&& b) < 2 ^ 31 := Nat.xor_lt_two_pow h1 h3
  exact (Nat.mod_eq_of_lt (by omega)).symm
