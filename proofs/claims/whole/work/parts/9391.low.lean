/-! The lowest of a set of cells: Long.lowestOneBit, numberOfTrailingZeros. -/
theorem tw_low_n {n b : Nat} (hb : n.testBit b = true) (hk : ∀ k, k < b → n.testBit k = false) : ∃ m : Nat, n = 2 ^ (b + 1) * m + 2 ^ b := by
  refine ⟨n / 2 ^ (b + 1), ?_⟩
  have h : n % 2 ^ (b + 1) = 2 ^ b := by
    apply Nat.eq_of_testBit_eq
    intro j
    rw [Nat.testBit_mod_two_pow, Nat.testBit_two_pow]
    by_cases h1 : j < b
    · rw [hk j h1, Bool.and_false, decide_eq_false (by omega)]
    · by_cases h2 : j = b
      · rw [h2, hb, decide_eq_true (by omega), decide_eq_true rfl]
        rfl
      · rw [decide_eq_false (show ¬ j < b + 1 by omega), Bool.false_and, decide_eq_false (by omega)]
  have := Nat.div_add_mod n (2 ^ (b + 1))
  omega
theorem tw_neg_bit {n b : Nat} (h0 : 0 < n) (hn : n < 2 ^ 63) (hb : n.testBit b = true) (hk : ∀ k, k < b → n.testBit k = false) : n &&& (2 ^ 64 - n) = 2 ^ b := by
  obtain ⟨m, hm⟩ := tw_low_n hb hk
  have hp : 0 < 2 ^ b := Nat.two_pow_pos b
  have hpp : 2 ^ (b + 1) = 2 * 2 ^ b := by rw [Nat.pow_succ]; omega
  have e1 : n - 1 = 2 ^ (b + 1) * m + (2 ^ b - 1) := by omega
  have e2 : 2 ^ 64 - n = 2 ^ 64 - ((n - 1) + 1) := by omega
  apply Nat.eq_of_testBit_eq
  intro j
  rw [Nat.testBit_and, e2, Nat.testBit_two_pow_sub_succ (by omega), e1, Nat.testBit_two_pow_mul_add _ (by omega), Nat.testBit_two_pow]
  have hnj : n.testBit j = if j < b + 1 then (2 ^ b).testBit j else m.testBit (j - (b + 1)) := by
    rw [hm, Nat.testBit_two_pow_mul_add _ (by omega)]
  by_cases h1 : j < b
  · rw [hk j h1, Bool.false_and, decide_eq_false (by omega)]
  · by_cases h2 : j = b
    · have h64 : b < 64 := by
        by_cases h : b < 64
        · exact h
        · have : n.testBit b = false := Nat.testBit_lt_two_pow (Nat.lt_of_lt_of_le hn (Nat.pow_le_pow_right (by omega) (by omega)))
          rw [this] at hb
          exact absurd hb (by decide)
      rw [h2, hb, if_pos (by omega), Nat.testBit_two_pow_sub_one, decide_eq_false (show ¬ b < b by omega), decide_eq_true h64, decide_eq_true rfl]
      rfl
    · rw [hnj, if_neg (by omega), if_neg (by omega), decide_eq_false (show ¬ b = j by omega)]
      cases m.testBit (j - (b + 1)) <;> cases decide (j < 64) <;> rfl
theorem tw_neg_l {n : Nat} (h0 : 0 < n) (hn : n < 9223372036854775808) : px_land (n : Int) (px_w64 (-(n : Int))) = ((n &&& (18446744073709551616 - n) : Nat) : Int) := by
  rw [ty_w6 (by omega)]
  unfold px_land
  show BitVec.toInt (BitVec.ofInt 64 (n : Int) &&& BitVec.ofInt 64 (-(n : Int))) = _
  have h : n &&& (18446744073709551616 - n) ≤ n := Nat.and_le_left
  refine ty_bv64_i ?_ (by omega)
  rw [BitVec.toNat_and, ty_bv64 hn, BitVec.toNat_ofInt]
  congr 1
  omega
/-- the lowest cell of a set -/
theorem tw_low {C S : Int} {f : Int → Bool} (hC : C ≤ 36) (h : ty_set C S f) (hex : ∃ c, 0 ≤ c ∧ c < C ∧ f c = true) : ∃ c : Int, ((0 ≤ c ∧ c < C) ∧ f c = true ∧ ∀ e, 0 ≤ e → e < c → f e = false) ∧ px_land S (px_w64 (-S)) = px_lshl 1 c := by
  obtain ⟨n, rfl, hn, hf⟩ := ty_set_n h
  have hp36 := ty_p36 hC
  have hlt : (n : Int) < 2 ^ C.toNat := h.1.2
  obtain ⟨c0, c00, c01, c02⟩ := hex
  have key : ∀ k : Nat, (∃ c : Nat, c < k ∧ (c : Int) < C ∧ f (c : Int) = true) → ∃ c : Nat, (c : Int) < C ∧ f (c : Int) = true ∧ ∀ e : Nat, e < c → f (e : Int) = false := by
    intro k
    induction k with
    | zero => rintro ⟨c, h1, -⟩; omega
    | succ k ih =>
      rintro ⟨c, h1, h2, h3⟩
      by_cases hlow : ∃ c' : Nat, c' < k ∧ (c' : Int) < C ∧ f (c' : Int) = true
      · exact ih hlow
      · refine ⟨c, h2, h3, fun e he => ?_⟩
        cases hfe : f (e : Int) with
        | false => rfl
        | true => exact absurd ⟨e, by omega, by omega, hfe⟩ hlow
  obtain ⟨b, b1, b2, b3⟩ := key (c0.toNat + 1) ⟨c0.toNat, by omega, by omega, by rw [show ((c0.toNat : Nat) : Int) = c0 by omega]; exact c02⟩
  have hnb : n.testBit b = true := by rw [hf b b1, b2]
  have hn0 : 0 < n := by
    by_cases e : n = 0
    · rw [e, Nat.zero_testBit] at hnb
      exact absurd hnb (by decide)
    · omega
  refine ⟨(b : Int), ⟨⟨by omega, b1⟩, b2, fun e e0 e1 => ?_⟩, ?_⟩
  · have := b3 e.toNat (by omega)
    rw [show ((e.toNat : Nat) : Int) = e by omega] at this
    exact this
  · have h2 := tw_neg_bit (n := n) (b := b) hn0 (by omega) hnb (fun k hk => by rw [hf k (by omega), b3 k hk])
    rw [tw_neg_l hn0 (by omega), ty_lshl_1 b (by omega)]
    exact congrArg (fun x : Nat => (x : Int)) h2
/-! numberOfTrailingZeros as a function. -/
def tw_n62 (x0 x1 : Int) : Int := if x0 ≤ 4 then px_w32 (x1 + px_ushr x0 1) else px_w32 (px_w32 (x1 + 2) + px_ushr (px_ushr x0 2) 1)
def tw_n49 (x0 x1 : Int) : Int := if x0 ≤ 16 then tw_n62 x0 x1 else tw_n62 (px_ushr x0 4) (px_w32 (x1 + 4))
def tw_n34 (x0 x1 : Int) : Int := if x0 ≤ 256 then tw_n49 x0 x1 else tw_n49 (px_ushr x0 8) (px_w32 (x1 + 8))
def tw_n0 (x : Int) : Int := if 0 < px_and (px_xor x (-1)) (px_w32 (x - 1)) then (if px_and (px_xor x (-1)) (px_w32 (x - 1)) ≤ 65536 then tw_n34 (px_and (px_xor x (-1)) (px_w32 (x - 1))) 1 else tw_n34 (px_ushr (px_and (px_xor x (-1)) (px_w32 (x - 1))) 16) (px_w32 (1 + 16))) else px_and (px_and (px_xor x (-1)) (px_w32 (x - 1))) 32
def tw_nl (x : Int) : Int := if px_w32 x = 0 then px_w32 (32 + tw_n0 (px_w32 (px_lushr x 32))) else tw_n0 (px_w32 x)
theorem tw_nl_f : ∀ c : Fin 36, tw_nl (px_lshl 1 (c.val : Int)) = (c.val : Int) := by decide +kernel
theorem tw_nl_c {c : Int} (h : 0 ≤ c ∧ c < 36) : tw_nl (px_lshl 1 c) = c := by
  have h1 := tw_nl_f ⟨c.toNat, by omega⟩
  have e : ((c.toNat : Nat) : Int) = c := by omega
  rw [show ((⟨c.toNat, by omega⟩ : Fin 36).val : Int) = c from e] at h1
  exact h1
section TYLZ
variable {L t : Nat} {r : MR}
theorem tw_238 (hr : px_hr r) (d : Nat) (i l : MI) (x : Int) : px_C d 238 [vI x] (px_sh L, i, l, r, t) = some (some (vI (tw_n0 x)), (px_sh L, i, l, r, t)) := by
  have h62 : ∀ x0 x1 : Int, px_X d 238 (62, [vI x0, vI x1], []) (px_sh L, i, l, r, t) = some (some (vI (tw_n62 x0 x1)), (px_sh L, i, l, r, t)) := fun x0 x1 => by
    rw [b238_62 hr]
    unfold tw_n62
    split <;> rfl
  have h49 : ∀ x0 x1 : Int, px_X d 238 (49, [vI x0, vI x1], []) (px_sh L, i, l, r, t) = some (some (vI (tw_n49 x0 x1)), (px_sh L, i, l, r, t)) := fun x0 x1 => by
    rw [b238_49 hr, h62, h62]
    unfold tw_n49
    split <;> rfl
  have h34 : ∀ x0 x1 : Int, px_X d 238 (34, [vI x0, vI x1], []) (px_sh L, i, l, r, t) = some (some (vI (tw_n34 x0 x1)), (px_sh L, i, l, r, t)) := fun x0 x1 => by
    rw [b238_34 hr, h49, h49]
    unfold tw_n34
    split <;> rfl
  rw [e238, b238_0 hr, h34, h34]
  unfold tw_n0
  split
  · split <;> rfl
  · rfl
theorem tw_240 (hr : px_hr r) (d : Nat) (i l : MI) (x : Int) : px_C (d + 1) 240 [vL x] (px_sh L, i, l, r, t) = some (some (vI (tw_nl x)), (px_sh L, i, l, r, t)) := by
  rw [e240, b240_0 hr, tw_238 hr, tw_238 hr, Option.bind_some, Option.bind_some, px_psh_some, px_psh_some, b240_17 hr, b240_25 hr]
  unfold tw_nl
  split <;> rfl
theorem tw_239 (hr : px_hr r) (d : Nat) (i l : MI) (x : Int) : px_C d 239 [vL x] (px_sh L, i, l, r, t) = some (some (vL (px_land x (px_w64 (-x)))), (px_sh L, i, l, r, t)) := by
  rw [e239, b239_0 hr]
end TYLZ
