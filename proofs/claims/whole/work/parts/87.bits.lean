/-! Bits of numbers that aren't negative. -/
theorem ty_and_nat {n m : Nat} (hn : n < 2147483648) (hm : m < 2147483648) : px_and (n : Int) (m : Int) = ((n &&& m : Nat) : Int) := by
  unfold px_and
  show BitVec.toInt (BitVec.ofInt 32 (n : Int) &&& BitVec.ofInt 32 (m : Int)) = _
  have e : (BitVec.ofInt 32 (n : Int) &&& BitVec.ofInt 32 (m : Int)).toNat = n &&& m := by
    rw [BitVec.ofInt_natCast, BitVec.ofInt_natCast, BitVec.toNat_and, BitVec.toNat_ofNat, BitVec.toNat_ofNat, Nat.mod_eq_of_lt (by omega), Nat.mod_eq_of_lt (by omega)]
  have h : n &&& m ≤ n := Nat.and_le_left
  rw [BitVec.toInt_eq_toNat_of_lt (by rw [e]; omega), e]
theorem ty_or_nat {n m : Nat} (hn : n < 2147483648) (hm : m < 2147483648) : px_or (n : Int) (m : Int) = ((n ||| m : Nat) : Int) := by
  unfold px_or
  show BitVec.toInt (BitVec.ofInt 32 (n : Int) ||| BitVec.ofInt 32 (m : Int)) = _
  have e : (BitVec.ofInt 32 (n : Int) ||| BitVec.ofInt 32 (m : Int)).toNat = n ||| m := by
    rw [BitVec.ofInt_natCast, BitVec.ofInt_natCast, BitVec.toNat_or, BitVec.toNat_ofNat, BitVec.toNat_ofNat, Nat.mod_eq_of_lt (by omega), Nat.mod_eq_of_lt (by omega)]
  have h : n ||| m < 2 ^ 31 := Nat.or_lt_two_pow (by omega) (by omega)
  rw [BitVec.toInt_eq_toNat_of_lt (by rw [e]; omega), e]
theorem ty_shr_bv (x : Int) (s : Nat) (hs : s < 31) : px_shr x (s : Int) = ((BitVec.ofInt 32 x).sshiftRight s).toInt := by
  have h : s = 0 ∨ s = 1 ∨ s = 2 ∨ s = 3 ∨ s = 4 ∨ s = 5 ∨ s = 6 ∨ s = 7 ∨ s = 8 ∨ s = 9 ∨ s = 10 ∨ s = 11 ∨ s = 12 ∨ s = 13 ∨ s = 14 ∨ s = 15 ∨ s = 16 ∨ s = 17 ∨ s = 18 ∨ s = 19 ∨ s = 20 ∨ s = 21 ∨ s = 22 ∨ s = 23 ∨ s = 24 ∨ s = 25 ∨ s = 26 ∨ s = 27 ∨ s = 28 ∨ s = 29 ∨ s = 30 := by omega
  rcases h with h | h | h | h | h | h | h | h | h | h | h | h | h | h | h | h | h | h | h | h | h | h | h | h | h | h | h | h | h | h | h <;> subst h <;> rfl
theorem ty_shr_nat {n s : Nat} (hn : n < 2147483648) (hs : s < 31) : px_shr (n : Int) (s : Int) = ((n >>> s : Nat) : Int) := by
  rw [ty_shr_bv _ s hs, BitVec.toInt_sshiftRight, BitVec.ofInt_natCast, BitVec.toInt_eq_toNat_of_lt (by rw [BitVec.toNat_ofNat, Nat.mod_eq_of_lt (by omega)]; omega), BitVec.toNat_ofNat, Nat.mod_eq_of_lt (by omega)]
  rfl
