/-! Bits of longs that aren't negative; of ints: less a set. -/
theorem ty_bv64 {n : Nat} (hn : n < 9223372036854775808) : (BitVec.ofInt 64 (n : Int)).toNat = n := by
  rw [BitVec.ofInt_natCast, BitVec.toNat_ofNat, Nat.mod_eq_of_lt (by omega)]
theorem ty_bv64_i {v : BitVec 64} {n : Nat} (h : v.toNat = n) (hn : n < 9223372036854775808) : v.toInt = (n : Int) := by
  rw [BitVec.toInt_eq_toNat_of_lt (by rw [h]; omega), h]
theorem ty_bv32 {n : Nat} (hn : n < 2147483648) : (BitVec.ofInt 32 (n : Int)).toNat = n := by
  rw [BitVec.ofInt_natCast, BitVec.toNat_ofNat, Nat.mod_eq_of_lt (by omega)]
theorem ty_bv32_i {v : BitVec 32} {n : Nat} (h : v.toNat = n) (hn : n < 2147483648) : v.toInt = (n : Int) := by
  rw [BitVec.toInt_eq_toNat_of_lt (by rw [h]; omega), h]
theorem ty_land_nat {n m : Nat} (hn : n < 9223372036854775808) (hm : m < 9223372036854775808) : px_land (n : Int) (m : Int) = ((n &&& m : Nat) : Int) := by
  unfold px_land
  show BitVec.toInt (BitVec.ofInt 64 (n : Int) &&& BitVec.ofInt 64 (m : Int)) = _
  have h : n &&& m ≤ n := Nat.and_le_left
  exact ty_bv64_i (by rw [BitVec.toNat_and, ty_bv64 hn, ty_bv64 hm]) (by omega)
theorem ty_lor_nat {n m : Nat} (hn : n < 9223372036854775808) (hm : m < 9223372036854775808) : px_lor (n : Int) (m : Int) = ((n ||| m : Nat) : Int) := by
  unfold px_lor
  show BitVec.toInt (BitVec.ofInt 64 (n : Int) ||| BitVec.ofInt 64 (m : Int)) = _
  have h : n ||| m < 2 ^ 63 := Nat.or_lt_two_pow (by omega) (by omega)
  exact ty_bv64_i (by rw [BitVec.toNat_or, ty_bv64 hn, ty_bv64 hm]) (by omega)
theorem ty_less_nat (w : Nat) {n m : Nat} (hn : n < 2 ^ w) : n &&& (m ^^^ (2 ^ w - 1)) = n ^^^ (n &&& m) := by
  apply Nat.eq_of_testBit_eq
  intro k
  rw [Nat.testBit_and, Nat.testBit_xor, Nat.testBit_xor, Nat.testBit_and, Nat.testBit_two_pow_sub_one]
  by_cases hk : k < w
  · rw [decide_eq_true hk]
    cases n.testBit k <;> cases m.testBit k <;> rfl
  · have h : n.testBit k = false := Nat.testBit_lt_two_pow (Nat.lt_of_lt_of_le hn (Nat.pow_le_pow_right (by omega) (by omega)))
    rw [h]
    cases m.testBit k <;> rfl
theorem ty_xa_le (n m : Nat) : n ^^^ (n &&& m) ≤ n := by
  have h : n ^^^ (n &&& m) = n &&& (n ^^^ (n &&& m)) := by
    apply Nat.eq_of_testBit_eq
    intro k
    rw [Nat.testBit_and, Nat.testBit_xor, Nat.testBit_and]
    cases n.testBit k <;> cases m.testBit k <;> rfl
  rw [h]
  exact Nat.and_le_left
theorem ty_lan_nat {n m : Nat} (hn : n < 9223372036854775808) (hm : m < 9223372036854775808) : px_land (n : Int) (px_lxor (m : Int) (-1)) = ((n ^^^ (n &&& m) : Nat) : Int) := by
  unfold px_land px_lxor
  show BitVec.toInt (BitVec.ofInt 64 (n : Int) &&& BitVec.ofInt 64 (BitVec.toInt (BitVec.ofInt 64 (m : Int) ^^^ BitVec.ofInt 64 (-1)))) = _
  have h := ty_xa_le n m
  refine ty_bv64_i ?_ (by omega)
  rw [BitVec.ofInt_toInt, BitVec.toNat_and, BitVec.toNat_xor, ty_bv64 hn, ty_bv64 hm]
  exact ty_less_nat 64 (by omega)
theorem ty_an_nat {n m : Nat} (hn : n < 2147483648) (hm : m < 2147483648) : px_and (n : Int) (px_xor (m : Int) (-1)) = ((n ^^^ (n &&& m) : Nat) : Int) := by
  unfold px_and px_xor
  show BitVec.toInt (BitVec.ofInt 32 (n : Int) &&& BitVec.ofInt 32 (BitVec.toInt (BitVec.ofInt 32 (m : Int) ^^^ BitVec.ofInt 32 (-1)))) = _
  have h := ty_xa_le n m
  refine ty_bv32_i ?_ (by omega)
  rw [BitVec.ofInt_toInt, BitVec.toNat_and, BitVec.toNat_xor, ty_bv32 hn, ty_bv32 hm]
  exact ty_less_nat 32 (by omega)
theorem ty_xa_bit (n m k : Nat) : (n ^^^ (n &&& m)).testBit k = (n.testBit k && !m.testBit k) := by
  rw [Nat.testBit_xor, Nat.testBit_and]
  cases n.testBit k <;> cases m.testBit k <;> rfl
theorem ty_lshl_bv (x : Int) (s : Nat) (hs : s < 40) : px_lshl x (s : Int) = ((BitVec.ofInt 64 x) <<< s).toInt := by
  have h : s = 0 ∨ s = 1 ∨ s = 2 ∨ s = 3 ∨ s = 4 ∨ s = 5 ∨ s = 6 ∨ s = 7 ∨ s = 8 ∨ s = 9 ∨ s = 10 ∨ s = 11 ∨ s = 12 ∨ s = 13 ∨ s = 14 ∨ s = 15 ∨ s = 16 ∨ s = 17 ∨ s = 18 ∨ s = 19 ∨ s = 20 ∨ s = 21 ∨ s = 22 ∨ s = 23 ∨ s = 24 ∨ s = 25 ∨ s = 26 ∨ s = 27 ∨ s = 28 ∨ s = 29 ∨ s = 30 ∨ s = 31 ∨ s = 32 ∨ s = 33 ∨ s = 34 ∨ s = 35 ∨ s = 36 ∨ s = 37 ∨ s = 38 ∨ s = 39 := by omega
  rcases h with h | h | h | h | h | h | h | h | h | h | h | h | h | h | h | h | h | h | h | h | h | h | h | h | h | h | h | h | h | h | h | h | h | h | h | h | h | h | h | h <;> subst h <;> rfl
theorem ty_lshr_bv (x : Int) (s : Nat) (hs : s < 40) : px_lshr x (s : Int) = ((BitVec.ofInt 64 x).sshiftRight s).toInt := by
  have h : s = 0 ∨ s = 1 ∨ s = 2 ∨ s = 3 ∨ s = 4 ∨ s = 5 ∨ s = 6 ∨ s = 7 ∨ s = 8 ∨ s = 9 ∨ s = 10 ∨ s = 11 ∨ s = 12 ∨ s = 13 ∨ s = 14 ∨ s = 15 ∨ s = 16 ∨ s = 17 ∨ s = 18 ∨ s = 19 ∨ s = 20 ∨ s = 21 ∨ s = 22 ∨ s = 23 ∨ s = 24 ∨ s = 25 ∨ s = 26 ∨ s = 27 ∨ s = 28 ∨ s = 29 ∨ s = 30 ∨ s = 31 ∨ s = 32 ∨ s = 33 ∨ s = 34 ∨ s = 35 ∨ s = 36 ∨ s = 37 ∨ s = 38 ∨ s = 39 := by omega
  rcases h with h | h | h | h | h | h | h | h | h | h | h | h | h | h | h | h | h | h | h | h | h | h | h | h | h | h | h | h | h | h | h | h | h | h | h | h | h | h | h | h <;> subst h <;> rfl
theorem ty_lushr_bv (x : Int) (s : Nat) (hs : s < 40) : px_lushr x (s : Int) = ((BitVec.ofInt 64 x) >>> s).toInt := by
  have h : s = 0 ∨ s = 1 ∨ s = 2 ∨ s = 3 ∨ s = 4 ∨ s = 5 ∨ s = 6 ∨ s = 7 ∨ s = 8 ∨ s = 9 ∨ s = 10 ∨ s = 11 ∨ s = 12 ∨ s = 13 ∨ s = 14 ∨ s = 15 ∨ s = 16 ∨ s = 17 ∨ s = 18 ∨ s = 19 ∨ s = 20 ∨ s = 21 ∨ s = 22 ∨ s = 23 ∨ s = 24 ∨ s = 25 ∨ s = 26 ∨ s = 27 ∨ s = 28 ∨ s = 29 ∨ s = 30 ∨ s = 31 ∨ s = 32 ∨ s = 33 ∨ s = 34 ∨ s = 35 ∨ s = 36 ∨ s = 37 ∨ s = 38 ∨ s = 39 := by omega
  rcases h with h | h | h | h | h | h | h | h | h | h | h | h | h | h | h | h | h | h | h | h | h | h | h | h | h | h | h | h | h | h | h | h | h | h | h | h | h | h | h | h <;> subst h <;> rfl
theorem ty_lshl_nat {n s : Nat} (hs : s < 40) (h : n * 2 ^ s < 9223372036854775808) : px_lshl (n : Int) (s : Int) = ((n <<< s : Nat) : Int) := by
  have hn : n < 9223372036854775808 := Nat.lt_of_le_of_lt (Nat.le_mul_of_pos_right n (Nat.two_pow_pos s)) h
  rw [ty_lshl_bv _ s hs]
  refine ty_bv64_i ?_ (by rw [Nat.shiftLeft_eq]; exact h)
  rw [BitVec.toNat_shiftLeft, ty_bv64 hn, Nat.mod_eq_of_lt (by rw [Nat.shiftLeft_eq]; omega)]
theorem ty_lshr_nat {n s : Nat} (hn : n < 9223372036854775808) (hs : s < 40) : px_lshr (n : Int) (s : Int) = ((n >>> s : Nat) : Int) := by
  rw [ty_lshr_bv _ s hs, BitVec.toInt_sshiftRight, ty_bv64_i (ty_bv64 hn) hn]
  rfl
theorem ty_lushr_nat {n s : Nat} (hn : n < 9223372036854775808) (hs : s < 40) : px_lushr (n : Int) (s : Int) = ((n >>> s : Nat) : Int) := by
  have h : n >>> s ≤ n := Nat.shiftRight_le n s
  rw [ty_lushr_bv _ s hs]
  exact ty_bv64_i (by rw [BitVec.toNat_ushiftRight, ty_bv64 hn]) (by omega)
theorem ty_lshl_1 (s : Nat) (hs : s < 40) : px_lshl 1 (s : Int) = ((2 ^ s : Nat) : Int) := by
  have h2 : 2 ^ s ≤ 2 ^ 39 := Nat.pow_le_pow_right (by omega) (by omega)
  have h := ty_lshl_nat (n := 1) hs (by omega)
  rw [Nat.shiftLeft_eq, Nat.one_mul] at h
  exact h
theorem ty_lbit {n k : Nat} (hn : n < 9223372036854775808) (hk : k < 40) : px_land (px_lshr (n : Int) (k : Int)) 1 = if ty_bit (n : Int) (k : Int) = true then 1 else 0 := by
  have h : n >>> k ≤ n := Nat.shiftRight_le n k
  rw [ty_lshr_nat hn hk, show (1 : Int) = ((1 : Nat) : Int) from rfl, ty_land_nat (by omega) (by omega), Nat.and_one_is_mod]
  unfold ty_bit
  rw [Int.toNat_natCast, Int.toNat_natCast, Nat.testBit_eq_decide_div_mod_eq, Nat.shiftRight_eq_div_pow]
  by_cases hx : n / 2 ^ k % 2 = 1
  · rw [if_pos (decide_eq_true hx), hx]
  · rw [if_neg (fun h => hx (of_decide_eq_true h))]
    omega
theorem ty_lbit_i {x k : Int} (h0 : 0 ≤ x ∧ x < 9223372036854775808) (hk : 0 ≤ k ∧ k < 40) : px_land (px_lshr x k) 1 = if ty_bit x k = true then 1 else 0 := by
  have h := ty_lbit (n := x.toNat) (k := k.toNat) (by omega) (by omega)
  rw [Int.toNat_of_nonneg h0.1, Int.toNat_of_nonneg hk.1] at h
  exact h
/-- a set of cells: nothing above 2^36 -/
theorem ty_p36 {c : Int} (h : c ≤ 36) : (2 : Int) ^ c.toNat ≤ 68719476736 := by
  have : (2 : Nat) ^ c.toNat ≤ 2 ^ 36 := Nat.pow_le_pow_right (by omega) (by omega)
  have h2 : ((2 ^ c.toNat : Nat) : Int) ≤ ((2 ^ 36 : Nat) : Int) := Int.ofNat_le.mpr this
  rw [Int.natCast_pow] at h2
  exact h2
