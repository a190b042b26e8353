/-! The coupling kept where the house alone changes; cell. -/
theorem ty_up_up {α : Type} {f : Nat → Int → α} {k : Nat} {x : Int} {a b : α} : px_up (px_up f k x a) k x b = px_up f k x b := by
  funext k' x'
  unfold px_up
  by_cases h : k' = k ∧ x' = x
  · rw [if_pos h, if_pos h]
  · rw [if_neg h, if_neg h, if_neg h]
theorem ty_CR_h0 {n : Nat} {i i' l l' : MI} (hc : ty_CR n i l) (hR : ∀ k, 31 ≤ k → k ≠ 124 → i' k = i k) (hG : ∀ k, 21 ≤ k → k < 31 → i' k = i k) (h19 : ∀ j, j ≠ 8 → i' 19 j = i 19 j) (h43 : i' 4 3 = i 4 3) (h44 : i' 4 4 = i 4 4) (h48 : i' 4 8 = i 4 8) (h5 : i' 124 5 = i 124 5)
    (hl46 : l' 46 = l 46) (hl19 : ∀ j, j ≠ 7 → l' 19 j = l 19 j) (h0 : ty_H 0 i' l' (i' 124)) : ty_CR (n + 1) i' l' := by
  obtain ⟨hD, h0', h27, hT, hY⟩ := hc
  have hdim := ty_D_2 hD
  have b5 := h0'.2.1.2.2.2.2.1
  have b6 := h0'.2.1.2.2.2.2.2.1
  have e48 : i 4 8 = i 124 6 := b6.1
  refine ⟨ty_D_c (i := i) (l := l) (by rw [hR _ (by omega) (by omega)]) (by rw [hR _ (by omega) (by omega)]) (by rw [hR _ (by omega) (by omega)]) (h19 _ (by omega)) (h19 _ (by omega)) (h19 _ (by omega)) (hl19 _ (by omega)) (hl19 _ (by omega)) (hl19 _ (by omega)) (ty_gs_fr (fun k k0 k1 => by
    by_cases hk : k < 31
    · exact hG k k0 hk
    · exact hR k (by omega) (by omega))) hD, h0,
    ty_H_same 27 125 (i := i) (l := l) (fun k k0 k1 => hR _ (by omega) (by omega)) (hR _ (by omega) (by omega)) (by rw [hR _ (by omega) (by omega)]) hl46 (by omega) h27,
    ty_T_c (by rw [hR _ (by omega) (by omega)]) (by rw [hR _ (by omega) (by omega)]) (by rw [hR _ (by omega) (by omega)]) (by rw [hR _ (by omega) (by omega)]) (by rw [hR _ (by omega) (by omega)]) (by rw [hR _ (by omega) (by omega)]) (by rw [hR _ (by omega) (by omega)]) (hR _ (by omega) (by omega)) (hR _ (by omega) (by omega)) hT,
    ty_Y_c (i := i) (by omega) (by omega) h5 (by rw [hR _ (by omega) (by omega)]) (fun k k0 k1 => hR _ (by omega) (by omega)) (fun k k0 k1 => hR _ (by omega) (by omega)) (fun m m0 m1 => Or.inr ⟨by rw [hR _ (by omega) (by omega)], h43, h44, h48⟩) (by rw [hR _ (by omega) (by omega)]) (hR _ (by omega) (by omega)) hY⟩
/-- one cell more or less in a set -/
theorem ty_set_bit {s c : Int} {N : Nat} (h0 : 0 ≤ s ∧ s < 2 ^ N) (hN : N ≤ 36) (hc : 0 ≤ c ∧ c < N) (b : Bool) :
    ∃ v : Int, (if b = true then px_lor (px_land s (px_lxor (px_lshl 1 c) (-1))) (px_lshl 1 c) else px_land s (px_lxor (px_lshl 1 c) (-1))) = v ∧ (0 ≤ v ∧ v < 2 ^ N) ∧ ∀ x : Int, 0 ≤ x → ty_bit v x = if x = c then b else ty_bit s x := by
  obtain ⟨m, hm⟩ : ∃ m : Nat, s = (m : Int) := ⟨s.toNat, by omega⟩
  obtain ⟨k, hk⟩ : ∃ k : Nat, c = (k : Int) := ⟨c.toNat, by omega⟩
  subst hm hk
  have h1 : m < 2 ^ N := by
    have h := h0.2
    rw [show (2 : Int) ^ N = ((2 ^ N : Nat) : Int) by rw [Int.natCast_pow]; rfl] at h
    omega
  have h2 : 2 ^ N ≤ 2 ^ 36 := Nat.pow_le_pow_right (by omega) hN
  have h3 : 2 ^ k < 2 ^ N := Nat.pow_lt_pow_right (by omega) (by omega)
  have h4 := ty_xa_le m (2 ^ k)
  have h5 : m ^^^ (m &&& 2 ^ k) ||| 2 ^ k < 2 ^ N := Nat.or_lt_two_pow (by omega) h3
  have e1 : px_land (m : Int) (px_lxor (px_lshl 1 (k : Int)) (-1)) = ((m ^^^ (m &&& 2 ^ k) : Nat) : Int) := by
    rw [ty_lshl_1 k (by omega), ty_lan_nat (by omega) (by omega)]
  have up : ∀ q : Nat, q < 2 ^ N → (0 : Int) ≤ (q : Int) ∧ (q : Int) < 2 ^ N := fun q hq => by
    rw [show (2 : Int) ^ N = ((2 ^ N : Nat) : Int) by rw [Int.natCast_pow]; rfl]
    omega
  have tb : ∀ x : Nat, (2 ^ k).testBit x = decide (k = x) := fun x => Nat.testBit_two_pow
  cases b with
  | false =>
    refine ⟨_, if_neg (by decide), ?_, fun x x0 => ?_⟩
    · rw [e1]
      exact up _ (by omega)
    · rw [e1]
      unfold ty_bit
      rw [Int.toNat_natCast, Int.toNat_natCast, ty_xa_bit, tb]
      by_cases hx : x = (k : Int)
      · rw [if_pos hx, decide_eq_true (show k = x.toNat by omega)]
        cases m.testBit x.toNat <;> rfl
      · rw [if_neg hx, decide_eq_false (show ¬ k = x.toNat by omega)]
        cases m.testBit x.toNat <;> rfl
  | true =>
    refine ⟨_, if_pos rfl, ?_, fun x x0 => ?_⟩
    · rw [e1, ty_lshl_1 k (by omega), ty_lor_nat (by omega) (by omega)]
      exact up _ h5
    · rw [e1, ty_lshl_1 k (by omega), ty_lor_nat (by omega) (by omega)]
      unfold ty_bit
      rw [Int.toNat_natCast, Int.toNat_natCast, Nat.testBit_or, ty_xa_bit, tb]
      by_cases hx : x = (k : Int)
      · rw [if_pos hx, decide_eq_true (show k = x.toNat by omega)]
        cases m.testBit x.toNat <;> rfl
      · rw [if_neg hx, decide_eq_false (show ¬ k = x.toNat by omega)]
        cases m.testBit x.toNat <;> rfl
theorem ok_cell (a b c : Int) (hc01 : c = 0 ∨ c = 1) : ty_ok ty_CR 1 147 [vI a, vI b, vI c] := by
  intro L t r hr n d i l hn hc
  have hc' := ty_CR_mono hc
  have hD := hc.1
  have hdim := ty_D_2 hD
  have e19 : i 19 2 = i 123 2 := hD.2.2.2.2.2.1
  have h36 : 0 ≤ i 123 2 ∧ i 123 2 ≤ 36 := by omega
  obtain ⟨hb, hs, hp, hg, ho, hh, hl, hnn⟩ := hc.2.1
  have b3 := hs.2.2.1
  have b4 := hs.2.2.2.1
  have b7 := hs.2.2.2.2.2.2.1
  have b8 := hs.2.2.2.2.2.2.2
  show ∃ (v : Int) (i1 l1 i2 l2 : MI), px_C (d + 38 + 1 + 1) 1 [vR 3, vI a, vI b, vI c] _ = _ ∧ px_C (d + 38 + 1 + 1) 147 [vR 123, vI a, vI b, vI c] _ = _ ∧ _
  by_cases hin : 0 ≤ a ∧ a < i 123 2
  · by_cases hbb : 0 ≤ b ∧ b ≤ 99
    · have w1 : px_w32 (2 * a) = 2 * a := ty_w (by omega)
      have w2 : px_w32 (20 + 2 * a) = 20 + 2 * a := ty_w (by omega)
      have w3 : px_w32 (20 + 2 * a + 1) = 21 + 2 * a := by rw [ty_w (by omega)]; omega
      obtain ⟨v, hv, hvb, hvx⟩ := ty_set_bit (s := l 19 7) (c := a) (N := (i 123 2).toNat) hb.2.1 (by omega) (by omega) (decide (c = 1))
      have hcls : px_C (d + 38 + 1) 40 [vR 19, vI a, vI b, vI c] (px_sh L, i, l, r, t) = some (none, (px_sh L, px_up i 20 a b, px_up l 19 7 v, r, t)) := by
        rw [e40, b40_0 hr, q34i hr _ _ _ (px_s20 L) (Nat.le_of_ble_eq_true rfl) _ _ (by omega), Option.bind_some, px_psh_none, b40_9 hr]
        rcases hc01 with h | h
        · rw [if_pos h]
          rw [if_neg (by rw [h]; decide)] at hv
          rw [hv]
        · rw [if_neg (by omega)]
          rw [if_pos (by rw [h]; decide)] at hv
          rw [hv, ty_up_up]
      have hm := b147_15 (L := L) (t := t) hr (d + 38 + 1 + 1) (px_up i 20 a b) (px_up l 19 7 v) a b c 1
      rw [w1, w2, w3] at hm
      have hm := hm (fun _ => by omega) (fun _ _ => by omega) (fun _ _ => by omega)
      rw [if_neg (by omega)] at hm
      have hm2 : px_X (d + 38 + 1 + 1) 147 (15, [vR 123, vI a, vI b, vI c], [vI 1]) (px_sh L, px_up i 20 a b, px_up l 19 7 v, r, t) = some (some (vI 1), (px_sh L, (px_up (px_up (px_up i 20 a b) 124 (20 + 2 * a) b) 124 (21 + 2 * a) c), px_up l 19 7 v, r, t)) := by
        rw [hm]
        rcases hc01 with h | h
        · rw [if_pos h, h]
        · rw [if_neg (by omega), h]
      refine ⟨1, px_up i 20 a b, px_up l 19 7 v, (px_up (px_up (px_up i 20 a b) 124 (20 + 2 * a) b) 124 (21 + 2 * a) c), px_up l 19 7 v, ?_, ?_, ?_, rfl, rfl⟩
      · rw [e1, b1_0 hr, q37 hr, Option.bind_some, px_psh_some, b1_11 hr, e19, px_bi_T hin, if_neg (by omega), q30 hr, Option.bind_some, px_psh_some, b1_21 hr, px_bi_T hbb, if_neg (by omega), hcls, Option.bind_some, px_psh_none, b1_39 hr]
      · rw [e147, b147_0 hr, q143 hr _ _ _ _ (by exact h36), Option.bind_some, px_psh_some, b147_5 hr, show (px_up i 20 a b) 123 2 = i 123 2 from rfl, px_bi_T hin, if_neg (by omega), q141 hr, Option.bind_some, px_psh_some, px_bi_T hbb]
        exact hm2
      · have hA : ∀ x : Int, x ≠ 20 + 2 * a → x ≠ 21 + 2 * a → (px_up (px_up (px_up i 20 a b) 124 (20 + 2 * a) b) 124 (21 + 2 * a) c) 124 x = i 124 x := fun x hx hx2 => by
          rw [ty_up_j hx2, ty_up_j hx]
          rfl
        have hR : ∀ k, k ≠ 20 → k ≠ 124 → (px_up (px_up (px_up i 20 a b) 124 (20 + 2 * a) b) 124 (21 + 2 * a) c) k = i k := fun k k0 k1 => by
          rw [ty_up_row k1, ty_up_row k1, ty_up_row k0]
        refine ty_CR_h0 hc (fun k k0 k1 => hR k (by omega) k1) (fun k k0 k1 => hR k (by omega) (by omega)) (fun j hj => by rw [hR _ (by omega) (by omega)]) (by rw [hR _ (by omega) (by omega)]) (by rw [hR _ (by omega) (by omega)]) (by rw [hR _ (by omega) (by omega)]) (hA 5 (by omega) (by omega)) rfl (fun j hj => ty_up_j hj)
          ⟨?_, ty_Hs_c (hR _ (by omega) (by omega)) (by rw [hR _ (by omega) (by omega)]) (fun x hx => hA x (by omega) (by omega)) hs, ty_Hp_c (hR _ (by omega) (by omega)) (hR _ (by omega) (by omega)) b3.2.2 (fun x hx => hA x (by omega) (by omega)) hp,
          ty_Hg_c (fun k hk => hR _ (by omega) (by omega)) b4.2.2 (fun x hx => hA x (by omega) (by omega)) hg, ty_Ho_c (hR _ (by omega) (by omega)) b4.2.2 (fun x hx => hA x (by omega) (by omega)) ho, ty_Hh_c (hR _ (by omega) (by omega)) b7.2.2 (fun x hx => hA x (by omega) (by omega)) hh,
          ty_Hl_c (hR _ (by omega) (by omega)) (hR _ (by omega) (by omega)) (hR _ (by omega) (by omega)) b8.2.2 (by rw [hA 4 (by omega) (by omega)]; omega) (by rw [hA 3 (by omega) (by omega)]; omega) (fun x hx => hA x (by omega) (by omega)) hl,
          ty_Hn_c (hR _ (by omega) (by omega)) (hR _ (by omega) (by omega)) (hR _ (by omega) (by omega)) (hR _ (by omega) (by omega)) (hR _ (by omega) (by omega)) (fun x hx => hA x (by omega) (by omega)) hnn⟩
        refine ⟨?_, ?_, fun x x0 x1 => ?_⟩
        · rw [hA 0 (by omega) (by omega), hR _ (by omega) (by omega), hR _ (by omega) (by omega)]
          exact hb.1
        · rw [hR 123 (by omega) (by omega)]
          show 0 ≤ (px_up l 19 7 v) 19 7 ∧ (px_up l 19 7 v) 19 7 < _
          rw [ty_up_eq]
          exact hvb
        · rw [hR 123 (by omega) (by omega)] at x1
          have hx := hb.2.2 x x0 x1
          simp only [Nat.add_zero] at hx ⊢
          rw [show (px_up l 19 7 v) 19 7 = v from ty_up_eq, hvx x x0]
          by_cases hxa : x = a
          · subst hxa
            rw [if_pos rfl, ty_up_row (show (20 : Nat) ≠ 124 by omega), ty_up_row (show (20 : Nat) ≠ 124 by omega), ty_up_eq, ty_up_j (show (20 + 2 * x : Int) ≠ 21 + 2 * x by omega), ty_up_eq, ty_up_eq]
            refine ⟨rfl, by omega, by omega, ?_⟩
            rcases hc01 with h | h <;> rw [h] <;> rfl
          · rw [if_neg hxa, hA _ (by omega) (by omega), hA _ (by omega) (by omega), ty_up_row (show (20 : Nat) ≠ 124 by omega), ty_up_row (show (20 : Nat) ≠ 124 by omega), ty_up_j hxa]
            exact hx
    · refine ⟨0, i, l, i, l, ?_, ?_, hc', rfl, rfl⟩
      · rw [e1, b1_0 hr, q37 hr, Option.bind_some, px_psh_some, b1_11 hr, e19, px_bi_T hin, if_neg (by omega), q30 hr, Option.bind_some, px_psh_some, b1_21 hr, px_bi_F hbb, if_pos rfl]
      · have hm := b147_15 (L := L) (t := t) hr (d + 38 + 1 + 1) i l a b c 0 (fun h => absurd rfl h) (fun h => absurd rfl h) (fun h => absurd rfl h)
        rw [if_pos rfl] at hm
        rw [e147, b147_0 hr, q143 hr _ _ _ _ (by omega), Option.bind_some, px_psh_some, b147_5 hr, px_bi_T hin, if_neg (by omega), q141 hr, Option.bind_some, px_psh_some, px_bi_F hbb]
        exact hm
  · refine ⟨0, i, l, i, l, ?_, ?_, hc', rfl, rfl⟩
    · rw [e1, b1_0 hr, q37 hr, Option.bind_some, px_psh_some, b1_11 hr, e19, px_bi_F hin, if_pos rfl]
    · rw [e147, b147_0 hr, q143 hr _ _ _ _ (by omega), Option.bind_some, px_psh_some, b147_5 hr, px_bi_F hin, if_pos rfl]
