/-! Those here as a set: bitsHere (57), allHere (198). -/
def ty_hs (A : Int → Int) : Nat → Nat
  | 0 => 0
  | n + 1 => ty_hs A n ||| (if A (128 + 14 * (n : Int)) = 0 then 0 else 2 ^ n)
theorem ty_hs_lt (A : Int → Int) : ∀ n : Nat, ty_hs A n < 2 ^ n
  | 0 => Nat.one_pos
  | n + 1 => by
    unfold ty_hs
    have h := ty_hs_lt A n
    have h2 : 2 ^ n < 2 ^ (n + 1) := Nat.pow_lt_pow_right (by omega) (by omega)
    refine Nat.or_lt_two_pow (by omega) ?_
    split
    · exact Nat.lt_of_le_of_lt (Nat.zero_le _) h2
    · exact h2
theorem ty_hs_bit (A : Int → Int) (g : Nat) : ∀ n : Nat, (ty_hs A n).testBit g = (decide (g < n) && !decide (A (128 + 14 * (g : Int)) = 0))
  | 0 => by
    unfold ty_hs
    rw [Nat.zero_testBit]
    rfl
  | n + 1 => by
    unfold ty_hs
    rw [Nat.testBit_or, ty_hs_bit A g n]
    by_cases h : g = n
    · subst h
      rw [decide_eq_false (Nat.lt_irrefl g), Bool.false_and, Bool.false_or, decide_eq_true (Nat.lt_succ_self g), Bool.true_and]
      by_cases h2 : A (128 + 14 * (g : Int)) = 0
      · rw [if_pos h2, decide_eq_true h2, Nat.zero_testBit]
        rfl
      · rw [if_neg h2, decide_eq_false h2, Nat.testBit_two_pow_self]
        rfl
    · have e : (if A (128 + 14 * (n : Int)) = 0 then 0 else 2 ^ n).testBit g = false := by
        by_cases h2 : A (128 + 14 * (n : Int)) = 0
        · rw [if_pos h2, Nat.zero_testBit]
        · rw [if_neg h2, Nat.testBit_two_pow_of_ne (fun e => h e.symm)]
      rw [e, Bool.or_false]
      congr 1
      exact decide_eq_decide.mpr (by omega)
/-- the set -/
def ty_hset (i : MI) : Int := ((ty_hs (i 124) (i 124 4).toNat : Nat) : Int)
theorem ty_hset_b {i : MI} (h : i 124 4 ≤ 10) : 0 ≤ ty_hset i ∧ ty_hset i < 1024 := by
  have h1 := ty_hs_lt (i 124) (i 124 4).toNat
  have h2 : 2 ^ (i 124 4).toNat ≤ 2 ^ 10 := Nat.pow_le_pow_right (by omega) (by omega)
  unfold ty_hset
  omega
theorem ty_hset_bit {i : MI} {g : Int} (h : 0 ≤ g) : ty_bit (ty_hset i) g = true ↔ g < i 124 4 ∧ ¬ i 124 (128 + 14 * g) = 0 := by
  unfold ty_bit ty_hset
  rw [Int.toNat_natCast, ty_hs_bit, Bool.and_eq_true, decide_eq_true_iff, Int.toNat_of_nonneg h, Bool.not_eq_true', decide_eq_false_iff_not]
  constructor
  · rintro ⟨h1, h2⟩; exact ⟨by omega, h2⟩
  · rintro ⟨h1, h2⟩; exact ⟨by omega, h2⟩
section TYP
variable {L t : Nat} {r : MR}
theorem ty_here_n (hr : px_hr r) (d : Nat) (i l : MI) (h46 : i 4 6 = i 124 4) (h10 : i 124 4 ≤ 10) (hg : ∀ g : Int, 0 ≤ g → g < i 124 4 → i (21 + g.toNat) 8 = i 124 (128 + 14 * g)) : ∀ (n k : Nat) (v3 : PV), px_nl v3 → (k : Int) + n = i 124 4 → px_X (d + 1) 57 (4, [vR 4, vI (ty_hs (i 124) k : Nat), vI (k : Int), v3], []) (px_sh L, i, l, r, t) = some (some (vI (ty_hs (i 124) (k + n) : Nat)), (px_sh L, i, l, r, t))
  | 0, k, v3, hn3, hk => by
    rw [b57_4 hr _ _ _ _ _ hn3, if_pos (by omega)]
    rfl
  | n + 1, k, v3, hn3, hk => by
    have hs : px_gs (21 + (k : Int).toNat) := px_gs_mk21 (by omega)
    have hgk := hg (k : Int) (by omega) (by omega)
    have hlt := ty_hs_lt (i 124) k
    have hp : 2 ^ k ≤ 2 ^ 10 := Nat.pow_le_pow_right (by omega) (by omega)
    have hw : px_w32 ((k : Int) + 1) = ((k + 1 : Nat) : Int) := by rw [ty_w (by omega)]; omega
    have e : k + (n + 1) = k + 1 + n := by omega
    rw [b57_4 hr _ _ _ _ _ hn3, if_neg (by omega), q52R hr _ _ _ _ (by omega), Option.bind_some, px_psh_some, b57_17_g hr _ _ _ _ _ hn3 hs, hgk, hw, e]
    by_cases h0 : i 124 (128 + 14 * (k : Int)) = 0
    · have e2 : ty_hs (i 124) (k + 1) = ty_hs (i 124) k := by
        show ty_hs (i 124) k ||| (if i 124 (128 + 14 * (k : Int)) = 0 then 0 else 2 ^ k) = _
        rw [if_pos h0, Nat.or_zero]
      rw [if_pos h0, ← e2]
      exact ty_here_n hr d i l h46 h10 hg n (k + 1) _ (px_nl_R _) (by omega)
    · have e2 : ty_hs (i 124) (k + 1) = ty_hs (i 124) k ||| 2 ^ k := by
        show ty_hs (i 124) k ||| (if i 124 (128 + 14 * (k : Int)) = 0 then 0 else 2 ^ k) = _
        rw [if_neg h0]
      rw [if_neg h0, ty_bit_or (by omega) (by omega), ← e2]
      exact ty_here_n hr d i l h46 h10 hg n (k + 1) _ (px_nl_R _) (by omega)
theorem q57 (hr : px_hr r) (d : Nat) (i l : MI) (h46 : i 4 6 = i 124 4) (h10 : 0 ≤ i 124 4 ∧ i 124 4 ≤ 10) (hg : ∀ g : Int, 0 ≤ g → g < i 124 4 → i (21 + g.toNat) 8 = i 124 (128 + 14 * g)) : px_C (d + 1) 57 [vR 4] (px_sh L, i, l, r, t) = some (some (vI (ty_hset i)), (px_sh L, i, l, r, t)) := by
  have h := ty_here_n (L := L) (t := t) hr d i l h46 h10.2 hg (i 124 4).toNat 0 vJ px_nl_J (by omega)
  rw [Nat.zero_add] at h
  rw [e57, b57_0 hr]
  exact h
theorem ty_allh_n (hr : px_hr r) (d : Nat) (i l : MI) (h10 : i 124 4 ≤ 10) (hg : ∀ g : Int, 0 ≤ g → g < i 124 4 → 0 ≤ i 124 (128 + 14 * g) ∧ i 124 (128 + 14 * g) ≤ 1) : ∀ (n k : Nat), (k : Int) + n = i 124 4 → px_X (d + 1) 198 (4, [vR 123, vI (ty_hs (i 124) k : Nat), vI (k : Int)], []) (px_sh L, i, l, r, t) = some (some (vI (ty_hs (i 124) (k + n) : Nat)), (px_sh L, i, l, r, t))
  | 0, k, hk => by
    rw [b198_4 hr, if_pos (by omega)]
    rfl
  | n + 1, k, hk => by
    have hgk := hg (k : Int) (by omega) (by omega)
    have hlt := ty_hs_lt (i 124) k
    have hp : 2 ^ k ≤ 2 ^ 10 := Nat.pow_le_pow_right (by omega) (by omega)
    have hw : px_w32 ((k : Int) + 1) = ((k + 1 : Nat) : Int) := by rw [ty_w (by omega)]; omega
    have e : k + (n + 1) = k + 1 + n := by omega
    rw [b198_4 hr, if_neg (by omega), q146 hr _ _ _ _ _ (by omega) (by omega), show 120 + 14 * (k : Int) + 8 = 128 + 14 * (k : Int) by omega, Option.bind_some, px_psh_some, b198_22 hr, hw, e]
    by_cases h0 : i 124 (128 + 14 * (k : Int)) = 0
    · have e2 : ty_hs (i 124) (k + 1) = ty_hs (i 124) k := by
        show ty_hs (i 124) k ||| (if i 124 (128 + 14 * (k : Int)) = 0 then 0 else 2 ^ k) = _
        rw [if_pos h0, Nat.or_zero]
      have e3 : px_or (ty_hs (i 124) k : Nat) (px_shl 0 (k : Int)) = (ty_hs (i 124) k : Nat) := by
        have : px_shl 0 (k : Int) = ((0 : Nat) : Int) := by
          have hk9 : k = 0 ∨ k = 1 ∨ k = 2 ∨ k = 3 ∨ k = 4 ∨ k = 5 ∨ k = 6 ∨ k = 7 ∨ k = 8 ∨ k = 9 := by omega
          rcases hk9 with h | h | h | h | h | h | h | h | h | h <;> subst h <;> rfl
        rw [this, ty_or_nat (by omega) (by omega), Nat.or_zero]
      rw [h0, e3, ← e2]
      exact ty_allh_n hr d i l h10 hg n (k + 1) (by omega)
    · have e2 : ty_hs (i 124) (k + 1) = ty_hs (i 124) k ||| 2 ^ k := by
        show ty_hs (i 124) k ||| (if i 124 (128 + 14 * (k : Int)) = 0 then 0 else 2 ^ k) = _
        rw [if_neg h0]
      rw [show i 124 (128 + 14 * (k : Int)) = 1 by omega, ty_bit_or (by omega) (by omega), ← e2]
      exact ty_allh_n hr d i l h10 hg n (k + 1) (by omega)
theorem q198 (hr : px_hr r) (d : Nat) (i l : MI) (h10 : 0 ≤ i 124 4 ∧ i 124 4 ≤ 10) (hg : ∀ g : Int, 0 ≤ g → g < i 124 4 → 0 ≤ i 124 (128 + 14 * g) ∧ i 124 (128 + 14 * g) ≤ 1) : px_C (d + 1) 198 [vR 123] (px_sh L, i, l, r, t) = some (some (vI (ty_hset i)), (px_sh L, i, l, r, t)) := by
  have h := ty_allh_n (L := L) (t := t) hr d i l h10.2 hg (i 124 4).toNat 0 (by omega)
  rw [Nat.zero_add] at h
  rw [e198, b198_0 hr]
  exact h
theorem q56 (hr : px_hr r) (d : Nat) (i l : MI) (x : Int) : px_C (d + 1) 56 [vR 4, vI x] (px_sh L, i, l, r, t) = some (some (vI (ty_at (i 14) 8 x)), (px_sh L, i, l, r, t)) := by
  rw [e56, b56_0 hr, q33 hr _ _ _ (px_s14 L) (Nat.le_of_ble_eq_true rfl), Option.bind_some, px_psh_some, b56_8 hr]
theorem q194 (hr : px_hr r) (d : Nat) (i l : MI) (x : Int) (hx : -1 ≤ x ∧ x < 8) : px_C d 194 [vR 123, vI x] (px_sh L, i, l, r, t) = some (some (vI (if x = -1 then 0 else i 124 (100 + 2 * x))), (px_sh L, i, l, r, t)) := by
  have w1 : px_w32 (2 * x) = 2 * x := ty_w (by omega)
  have w2 : px_w32 (100 + 2 * x) = 100 + 2 * x := ty_w (by omega)
  have hb := b194_0 (L := L) (t := t) hr d i l x
  rw [w1, w2] at hb
  rw [e194, hb (by omega)]
  by_cases h : x = -1
  · rw [if_pos h, if_pos h]
  · rw [if_neg h, if_neg h]
end TYP
/-- the house as laws and seats see it: guests, perches, order -/
def ty_HG (i : MI) : Prop := (i 4 6 = i 124 4 ∧ 0 ≤ i 124 4 ∧ i 124 4 ≤ 10) ∧ (i 4 5 = i 124 3 ∧ 0 ≤ i 124 3 ∧ i 124 3 ≤ 8) ∧ ty_Hp 0 i (i 124) ∧ ty_Hg 0 i (i 124) ∧ ty_Ho 0 i (i 124)
def ty_Q (i : MI) : Prop := ty_V i ∧ ty_HG i
theorem ty_Q_CR {n : Nat} {i l : MI} (h : ty_CR n i l) : ty_Q i := by
  have hV := ty_V_CR h
  obtain ⟨hD, h0, h27, hT, hY⟩ := h
  obtain ⟨hb, hs, hp, hg, ho, hh, hl, hnn⟩ := h0
  exact ⟨hV, hs.2.2.2.1, hs.2.2.1, hp, hg, ho⟩
theorem ty_HG_ch {S : List Nat} {i i' : MI} (h : ty_HG i) (hc : ty_ch S i i') (hS : S.all (fun k => decide (30 < k ∧ k ≠ 124)) = true) : ty_HG i' := by
  have hm : ∀ k, k ∈ S → 30 < k ∧ k ≠ 124 := fun k hk => of_decide_eq_true (List.all_eq_true.mp hS k hk)
  have r124 : i' 124 = i 124 := hc 124 (fun hk => (hm _ hk).2 rfl)
  have hr : ∀ k, k ≤ 30 → i' k = i k := fun k hk => hc k (fun q => by have := hm _ q; omega)
  obtain ⟨g1, g2, g3, g4, g5⟩ := h
  unfold ty_HG
  rw [r124, hr 4 (by omega)]
  exact ⟨g1, g2, ty_Hp_c (hr 14 (by omega)) (hr 15 (by omega)) g2.2.2 (fun _ _ => rfl) g3, ty_Hg_c (fun k hk => hr _ (by omega)) g1.2.2 (fun _ _ => rfl) g4, ty_Ho_c (hr 17 (by omega)) g1.2.2 (fun _ _ => rfl) g5⟩
theorem ty_Q_ch {S : List Nat} {i i' : MI} (h : ty_Q i) (hc : ty_ch S i i') (hS : S.all (fun k => decide (58 < k ∧ k ≠ 70 ∧ k ≠ 124 ∧ (k < 73 ∨ 103 ≤ k) ∧ (k < 124 ∨ 132 ≤ k))) = true) : ty_Q i' := by
  have hm : ∀ k, k ∈ S → 58 < k ∧ k ≠ 70 ∧ k ≠ 124 ∧ (k < 73 ∨ 103 ≤ k) ∧ (k < 124 ∨ 132 ≤ k) := fun k hk => of_decide_eq_true (List.all_eq_true.mp hS k hk)
  obtain ⟨⟨hL, hk, hw, ho⟩, hG⟩ := h
  have r4 : i' 4 = i 4 := hc 4 (fun hk => by have := hm _ hk; omega)
  have r124 : i' 124 = i 124 := hc 124 (fun hk => by have := hm _ hk; omega)
  have r70 : i' 70 = i 70 := hc 70 (fun hk => by have := hm _ hk; omega)
  have e1 : ∀ k, 73 ≤ k → k < 103 → i' k = i k := fun k k0 k1 => hc k (fun hk => by have := hm _ hk; omega)
  have e2 : ∀ k, 127 ≤ k → k < 132 → i' k = i k := fun k k0 k1 => hc k (fun hk => by have := hm _ hk; omega)
  have hb1 := hL.1
  have hb2 := hL.2.1
  have hb3 := hL.2.2.1
  refine ⟨⟨ty_LW_c (by rw [r4]) (by rw [r124]) e1 e2 hL, fun m m0 m1 => ?_, by rw [r4, r124]; exact hw, by rw [r4, r124]; exact ho⟩, ty_HG_ch hG hc (List.all_eq_true.mpr (fun k hk => by have := hm _ hk; exact decide_eq_true (by omega)))⟩
  rw [r70, ty_lev_c (by rw [r4]) (by rw [r4]) (by rw [r4]) (fun k k0 k1 => e1 k (by omega) (by omega))]
  exact hk m m0 m1
