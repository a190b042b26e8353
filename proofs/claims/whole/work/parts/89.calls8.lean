/-! sat. -/
theorem ok_sat (a k : Int) : ty_ok ty_CR 16 206 [vI a, vI k] := by
  intro L t r hr n d i l hn hc
  have hc' := ty_CR_mono hc
  obtain ⟨hD, h0, h27, hT, hY⟩ := hc
  obtain ⟨hb, hs, hp, hg, ho, hh, hl, n1, n2, n3, n4, n5⟩ := h0
  have b4 := hs.2.2.2.1
  have e46 : i 4 6 = i 124 4 := b4.1
  have e90 : i 9 0 = i 124 10 := n1.1
  have n3' : 0 ≤ i 9 2 ∧ i 9 2 < 1024 := n3
  show ∃ (v : Int) (i1 l1 i2 l2 : MI), px_C (d + 38 + 1 + 1) 16 [vR 3, vI a, vI k] _ = _ ∧ px_C (d + 38 + 1 + 1) 206 [vR 123, vI a, vI k] _ = _ ∧ _
  by_cases ha : 0 ≤ a ∧ a < i 124 4
  · have hw : i 124 (132 + 14 * a) = (if ty_bit (i 9 2) a = true then 1 else 0) := ((n4 a ha.1 (by omega)).2 ha.2).1
    have ew : (120 + 14 * a + 12 : Int) = 132 + 14 * a := by omega
    have wm : px_w32 ((if 50 < i 124 10 then 50 else i 124 10) - 1) = (if 50 < i 124 10 then 50 else i 124 10) - 1 := ty_w (by split <;> omega)
    have hbit : (0 ≤ a ∧ a < 31 ∧ ty_bit (i 9 2) a = true) ↔ ty_bit (i 9 2) a = true := ⟨fun h => h.2.2, fun h => ⟨ha.1, by omega, h⟩⟩
    have hcl : ∀ v, px_C (d + 38 + 1) 87 [vR 9, vI a, vI k] (px_sh L, i, l, r, t) = some (some (vI v), (px_sh L, i, l, r, t)) → px_C (d + 38 + 1 + 1) 16 [vR 3, vI a, vI k] (px_sh L, i, l, r, t) = some (some (vI v), (px_sh L, i, l, r, t)) := fun v h => by
      rw [e16, b16_0 hr, q52R hr _ _ _ _ (by omega), Option.bind_some, px_psh_some, b16_8_g hr _ _ _ _ _ (px_gs_mk21 (by omega)), h, Option.bind_some, px_psh_some, b16_28 hr]
    by_cases hk : 0 ≤ k ∧ k < i 124 10 ∧ k < 50
    · have hk' : 0 ≤ k ∧ k ≤ (if 50 < i 124 10 then 50 else i 124 10) - 1 := ⟨hk.1, by split <;> omega⟩
      by_cases hx : ty_bit (i 9 2) a = true
      · have w1 : px_w32 (k * 10) = k * 10 := ty_w (by omega)
        have w2 : px_w32 (k * 10 + a) = 10 * k + a := by rw [ty_w (by omega)]; omega
        have w3 : px_w32 (10 * k) = 10 * k := ty_w (by omega)
        have w4 : px_w32 (320 + 10 * k) = 320 + 10 * k := ty_w (by omega)
        have w5 : px_w32 (320 + 10 * k + a) = 320 + 10 * k + a := ty_w (by omega)
        have hv : i 13 (10 * k + a) = i 124 (320 + 10 * k + a) := n5 k a hk.1 hk.2.1 hk.2.2 ha.1 ha.2 hx
        have hm := b206_15 (L := L) (t := t) hr (d + 38 + 1 + 1) i l a k 1
        rw [w3, w4, w5] at hm
        have hm := hm (fun _ _ _ _ => by omega)
        rw [if_pos rfl, if_neg (by omega), if_neg (by omega), if_neg (by omega)] at hm
        refine ⟨i 124 (320 + 10 * k + a), i, l, i, l, hcl _ ?_, ?_, hc', rfl, rfl⟩
        · rw [e87, b87_0 hr, e90, wm, q30 hr, Option.bind_some, px_psh_some, b87_16 hr, px_bi_T hk', if_neg (by omega), q32 hr _ _ _ _ _ (by omega) (by omega), Option.bind_some, px_psh_some, b87_27 hr, px_bi_T (hbit.mpr hx), if_neg (by omega), w1, w2, q33i hr _ _ _ (px_s13 L) (Nat.le_of_ble_eq_true rfl) _ (show 0 ≤ 10 * k + a ∧ 10 * k + a < ((500 : Nat) : Int) by omega), Option.bind_some, px_psh_some, b87_46 hr, hv]
        · rw [e206, b206_0 hr, q144 hr _ _ _ _ (by omega), Option.bind_some, px_psh_some, b206_5 hr, px_bi_T ha, if_neg (by omega), q146 hr _ _ _ _ _ (by omega) (by omega), ew, hw, if_pos hx, Option.bind_some, px_psh_some]
          exact hm
      · have hm := b206_15 (L := L) (t := t) hr (d + 38 + 1 + 1) i l a k 0 (fun h => by omega)
        rw [if_neg (by omega)] at hm
        refine ⟨-2, i, l, i, l, hcl _ ?_, ?_, hc', rfl, rfl⟩
        · rw [e87, b87_0 hr, e90, wm, q30 hr, Option.bind_some, px_psh_some, b87_16 hr, px_bi_T hk', if_neg (by omega), q32 hr _ _ _ _ _ (by omega) (by omega), Option.bind_some, px_psh_some, b87_27 hr, px_bi_F (fun h => hx h.2.2), if_pos rfl]
        · rw [e206, b206_0 hr, q144 hr _ _ _ _ (by omega), Option.bind_some, px_psh_some, b206_5 hr, px_bi_T ha, if_neg (by omega), q146 hr _ _ _ _ _ (by omega) (by omega), ew, hw, if_neg hx, Option.bind_some, px_psh_some]
          exact hm
    · have hk' : ¬ (0 ≤ k ∧ k ≤ (if 50 < i 124 10 then 50 else i 124 10) - 1) := fun h => hk ⟨h.1, by have := h.2; split at this <;> omega, by have := h.2; split at this <;> omega⟩
      have hm : ∀ x, px_X (d + 38 + 1 + 1) 206 (15, [vR 123, vI a, vI k], [vI x]) (px_sh L, i, l, r, t) = some (some (vI (-2)), (px_sh L, i, l, r, t)) := fun x => by
        rw [b206_15 hr (d + 38 + 1 + 1) i l a k x (fun _ _ _ _ => by omega)]
        by_cases h1 : x = 1
        · rw [if_pos h1]
          by_cases h2 : k < 0
          · rw [if_pos h2]
          · rw [if_neg h2]
            by_cases h3 : i 124 10 ≤ k
            · rw [if_pos h3]
            · rw [if_neg h3, if_pos (by omega)]
        · rw [if_neg h1]
      refine ⟨-2, i, l, i, l, hcl _ ?_, ?_, hc', rfl, rfl⟩
      · rw [e87, b87_0 hr, e90, wm, q30 hr, Option.bind_some, px_psh_some, b87_16 hr, px_bi_F hk', if_pos rfl]
      · rw [e206, b206_0 hr, q144 hr _ _ _ _ (by omega), Option.bind_some, px_psh_some, b206_5 hr, px_bi_T ha, if_neg (by omega), q146 hr _ _ _ _ _ (by omega) (by omega), Option.bind_some, px_psh_some]
        exact hm _
  · refine ⟨-2, i, l, i, l, ?_, ?_, hc', rfl, rfl⟩
    · rw [e16, b16_0 hr, q52N hr _ _ _ _ (by omega), Option.bind_some, px_psh_some, b16_8_N hr]
    · rw [e206, b206_0 hr, q144 hr _ _ _ _ (by omega), Option.bind_some, px_psh_some, b206_5 hr, px_bi_F ha, if_pos rfl]
