/-! One bit. -/
theorem ty_shl_1 (s : Nat) (hs : s < 31) : px_shl 1 (s : Int) = ((2 ^ s : Nat) : Int) := by
  have h : s = 0 ∨ s = 1 ∨ s = 2 ∨ s = 3 ∨ s = 4 ∨ s = 5 ∨ s = 6 ∨ s = 7 ∨ s = 8 ∨ s = 9 ∨ s = 10 ∨ s = 11 ∨ s = 12 ∨ s = 13 ∨ s = 14 ∨ s = 15 ∨ s = 16 ∨ s = 17 ∨ s = 18 ∨ s = 19 ∨ s = 20 ∨ s = 21 ∨ s = 22 ∨ s = 23 ∨ s = 24 ∨ s = 25 ∨ s = 26 ∨ s = 27 ∨ s = 28 ∨ s = 29 ∨ s = 30 := by omega
  rcases h with h | h | h | h | h | h | h | h | h | h | h | h | h | h | h | h | h | h | h | h | h | h | h | h | h | h | h | h | h | h | h <;> subst h <;> rfl
theorem ty_bit_or {n s : Nat} (hn : n < 2147483648) (hs : s < 31) : px_or (n : Int) (px_shl 1 (s : Int)) = ((n ||| 2 ^ s : Nat) : Int) := by
  rw [ty_shl_1 s hs, ty_or_nat hn (Nat.pow_lt_pow_right (by omega) hs)]
