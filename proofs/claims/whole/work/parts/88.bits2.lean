/-! hasBit. -/
theorem ty_bit_1 {n k : Nat} (hn : n < 2147483648) (hk : k < 31) : px_and (px_shr (n : Int) (k : Int)) 1 = 1 ↔ ty_bit (n : Int) (k : Int) = true := by
  have h : n >>> k ≤ n := Nat.shiftRight_le n k
  rw [ty_shr_nat hn hk, show (1 : Int) = ((1 : Nat) : Int) from rfl, ty_and_nat (by omega) (by omega), Nat.and_one_is_mod]
  unfold ty_bit
  rw [Int.toNat_natCast, Int.toNat_natCast, Nat.testBit_eq_decide_div_mod_eq, Nat.shiftRight_eq_div_pow, decide_eq_true_iff]
  omega
theorem q32 {L t : Nat} {r : MR} (hr : px_hr r) (d : Nat) (i l : MI) (s g : Int) (h0 : 0 ≤ s) (h1 : s < 2147483648) : px_C d 32 [vI s, vI g] (px_sh L, i, l, r, t) = some (some (vI (px_bi (0 ≤ g ∧ g < 31 ∧ ty_bit s g = true))), (px_sh L, i, l, r, t)) := by
  rw [e32, b32_0 hr]
  by_cases hg : g < 0
  · rw [if_pos hg, px_bi_F (fun h => by omega)]
  · rw [if_neg hg]
    by_cases hg2 : 31 ≤ g
    · rw [if_pos hg2, px_bi_F (fun h => by omega)]
    · rw [if_neg hg2]
      have hb := ty_bit_1 (n := s.toNat) (k := g.toNat) (by omega) (by omega)
      rw [Int.toNat_of_nonneg h0, Int.toNat_of_nonneg (by omega)] at hb
      by_cases hx : px_and (px_shr s g) 1 = 1
      · rw [if_pos hx, px_bi_T ⟨by omega, by omega, hb.mp hx⟩]
      · rw [if_neg hx, px_bi_F (fun h => hx (hb.mpr h.2.2))]
