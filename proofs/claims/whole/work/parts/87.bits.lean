/-! Bits of numbers that aren't negative. -/
theorem ty_and_nat {n m : Nat} (hn : n < 2147483648) (hm : m < 2147483648) : px_and (n : Int) (m : Int) = ((n &&& m : Nat) : Int) := by
  unfold px_and
  show BitVec.toInt (BitVec.ofInt 32 (n : Int) &&& BitVec.ofInt 32 (m : Int)) = _
  have e : (BitVec.ofInt 32 (n : Int) &&& BitVec.ofInt 32 (m : Int)).toNat = n &&& m := by
    rw [BitVec.ofInt_natCast, BitVec.ofInt_natCast, BitVec.toNat_and, BitVec.toNat_ofNat, BitVec.toNat_ofNat, Nat.mod_eq_of_lt (by omega), Nat.mod_eq_of_lt (by omega)]
  have h : n &&& m ≤ n := Nat.and_le_left
  rw [BitVec.toInt_eq_toNat_of_lt (by rw [e]; omega), e]
theorem ty_or_nat {n m : Nat} (hn : n < 2147483648) (hm : m < 2147483648) : px_or (n : Int) (m : Int) = ((n ||| m : Nat) : Int) := by
  unfold px_or
  show BitVec.toInt (BitVec.ofInt 32 (n : Int) ||| BitVec.ofInt 32 (m : Int)) = _
  have e : (BitVec.ofInt 32 (n : Int) ||| BitVec.ofInt 32 (m : Int)).toNat = n ||| m := by
    rw [BitVec.ofInt_natCast, BitVec.ofInt_natCast, BitVec.toNat_or, BitVec.toNat_ofNat, BitVec.toNat_ofNat, Nat.mod_eq_of_lt (by omega), Nat.mod_eq_of_lt (by omega)]
  have h : n ||| m < 2 ^ 31 := Nat.or_lt_two_pow (by omega) (by omega)
  rw [BitVec.toInt_eq_toNat_of_lt (by rw [e]; omega), e]
