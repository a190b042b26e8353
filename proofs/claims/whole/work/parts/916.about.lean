/-! about; shift. -/
theorem ty_w32_lo {a k : Int} (ha : px_r32 a) (hk : 0 ≤ k ∧ k ≤ 1000) (h : a < k) : ¬ (0 ≤ px_w32 (a - k) ∧ px_w32 (a - k) < 1000) := by
  unfold px_r32 at ha
  by_cases h1 : -2147483648 ≤ a - k
  · rw [ty_w (by omega)]
    omega
  · have h2 : px_w32 (a - k + 4294967296) = a - k + 4294967296 := ty_w (by omega)
    have h3 : px_w32 (a - k + 4294967296) = px_w32 (a - k) := Int.add_bmod_right _ _
    have e : px_w32 (a - k) = a - k + 4294967296 := h3.symm.trans h2
    rw [e]
    omega
theorem ok_about (a : Int) (ha : px_r32 a) : ty_ok ty_CR 29 235 [vI a] := by
  intro L t r hr n d i l hn hc
  have hc' := ty_CR_mono hc
  have hD := hc.1
  have hT := hc.2.2.2.1
  have hdim := ty_D_2 hD
  have e190 : i 19 0 = i 123 0 := hD.2.2.2.1
  have e191 : i 19 1 = i 123 1 := hD.2.2.2.2.1
  have e19 : i 19 2 = i 123 2 := hD.2.2.2.2.2.1
  obtain ⟨hb, hs, hp, hg, ho, hh, hl, hnn⟩ := hc.2.1
  have b0 : i 19 8 = i 124 0 := hb.1.1
  have s1 : i 4 3 = i 124 1 := hs.1.1
  have s2 : i 4 4 = i 124 2 := hs.2.1.1
  have s3 : i 4 5 = i 124 3 ∧ 0 ≤ i 124 3 ∧ i 124 3 ≤ 8 := hs.2.2.1
  have s4 : i 4 6 = i 124 4 ∧ 0 ≤ i 124 4 ∧ i 124 4 ≤ 10 := hs.2.2.2.1
  have s5 : i 4 7 = i 124 5 := hs.2.2.2.2.1.1
  have s6 : i 4 8 = i 124 6 := hs.2.2.2.2.2.1.1
  have s7 : i 4 9 = i 124 7 := hs.2.2.2.2.2.2.1.1
  have s8 : i 5 0 = i 124 8 := hs.2.2.2.2.2.2.2.1
  have t6 : i 58 1 = i 123 6 := hT.1.1
  suffices h : ∃ v : Int, px_C (d + 38 + 1 + 1) 29 [vR 3, vI a] (px_sh L, i, l, r, t) = some (some (vI v), (px_sh L, i, l, r, t)) ∧ px_C (d + 38 + 1 + 1) 235 [vR 123, vI a] (px_sh L, i, l, r, t) = some (some (vI v), (px_sh L, i, l, r, t)) by
    obtain ⟨v, h1, h2⟩ := h
    exact ⟨v, i, l, i, l, h1, h2, hc', rfl, rfl⟩
  by_cases h11 : a = 11
  · refine ⟨i 123 6, ?_, ?_⟩
    · rw [e29, b29_0 hr, if_pos h11, t6]
    · rw [e235, b235_0 hr, if_neg (by omega), if_neg (by omega), if_neg (by omega), if_neg (by omega), if_neg (by omega), if_neg (by omega), if_neg (by omega), if_neg (by omega), if_neg (by omega), if_neg (by omega), if_neg (by omega), if_pos h11]
  by_cases h10 : 0 ≤ a ∧ a ≤ 10
  · have hcs : a = 0 ∨ a = 1 ∨ a = 2 ∨ a = 3 ∨ a = 4 ∨ a = 5 ∨ a = 6 ∨ a = 7 ∨ a = 8 ∨ a = 9 ∨ a = 10 := by omega
    rcases hcs with h | h | h | h | h | h | h | h | h | h | h
    · refine ⟨i 123 0, ?_, ?_⟩
      · rw [e29, b29_0 hr, if_neg h11, q30 hr, Option.bind_some, px_psh_some, b29_21 hr, px_bi_T h10, if_neg (by omega), e58, b58_0 hr, if_pos h, Option.bind_some, px_psh_some, b29_32 hr, e190]
      · rw [e235, b235_0 hr, if_pos h]
    · refine ⟨i 123 1, ?_, ?_⟩
      · rw [e29, b29_0 hr, if_neg h11, q30 hr, Option.bind_some, px_psh_some, b29_21 hr, px_bi_T h10, if_neg (by omega), e58, b58_0 hr, if_neg (by omega), if_pos h, Option.bind_some, px_psh_some, b29_32 hr, e191]
      · rw [e235, b235_0 hr, if_neg (by omega), if_pos h]
    · refine ⟨i 124 0, ?_, ?_⟩
      · rw [e29, b29_0 hr, if_neg h11, q30 hr, Option.bind_some, px_psh_some, b29_21 hr, px_bi_T h10, if_neg (by omega), e58, b58_0 hr, if_neg (by omega), if_neg (by omega), if_pos h, Option.bind_some, px_psh_some, b29_32 hr, b0]
      · rw [e235, b235_0 hr, if_neg (by omega), if_neg (by omega), if_pos h]
    · refine ⟨i 124 1, ?_, ?_⟩
      · rw [e29, b29_0 hr, if_neg h11, q30 hr, Option.bind_some, px_psh_some, b29_21 hr, px_bi_T h10, if_neg (by omega), e58, b58_0 hr, if_neg (by omega), if_neg (by omega), if_neg (by omega), if_pos h, Option.bind_some, px_psh_some, b29_32 hr, s1]
      · rw [e235, b235_0 hr, if_neg (by omega), if_neg (by omega), if_neg (by omega), if_pos h]
    · refine ⟨i 124 2, ?_, ?_⟩
      · rw [e29, b29_0 hr, if_neg h11, q30 hr, Option.bind_some, px_psh_some, b29_21 hr, px_bi_T h10, if_neg (by omega), e58, b58_0 hr, if_neg (by omega), if_neg (by omega), if_neg (by omega), if_neg (by omega), if_pos h, Option.bind_some, px_psh_some, b29_32 hr, s2]
      · rw [e235, b235_0 hr, if_neg (by omega), if_neg (by omega), if_neg (by omega), if_neg (by omega), if_pos h]
    · refine ⟨i 124 3, ?_, ?_⟩
      · rw [e29, b29_0 hr, if_neg h11, q30 hr, Option.bind_some, px_psh_some, b29_21 hr, px_bi_T h10, if_neg (by omega), e58, b58_0 hr, if_neg (by omega), if_neg (by omega), if_neg (by omega), if_neg (by omega), if_neg (by omega), if_pos h, Option.bind_some, px_psh_some, b29_32 hr, s3.1]
      · rw [e235, b235_0 hr, if_neg (by omega), if_neg (by omega), if_neg (by omega), if_neg (by omega), if_neg (by omega), if_pos h]
    · refine ⟨i 124 4, ?_, ?_⟩
      · rw [e29, b29_0 hr, if_neg h11, q30 hr, Option.bind_some, px_psh_some, b29_21 hr, px_bi_T h10, if_neg (by omega), e58, b58_0 hr, if_neg (by omega), if_neg (by omega), if_neg (by omega), if_neg (by omega), if_neg (by omega), if_neg (by omega), if_pos h, Option.bind_some, px_psh_some, b29_32 hr, s4.1]
      · rw [e235, b235_0 hr, if_neg (by omega), if_neg (by omega), if_neg (by omega), if_neg (by omega), if_neg (by omega), if_neg (by omega), if_pos h]
    · refine ⟨i 124 5, ?_, ?_⟩
      · rw [e29, b29_0 hr, if_neg h11, q30 hr, Option.bind_some, px_psh_some, b29_21 hr, px_bi_T h10, if_neg (by omega), e58, b58_0 hr, if_neg (by omega), if_neg (by omega), if_neg (by omega), if_neg (by omega), if_neg (by omega), if_neg (by omega), if_neg (by omega), if_pos h, Option.bind_some, px_psh_some, b29_32 hr, s5]
      · rw [e235, b235_0 hr, if_neg (by omega), if_neg (by omega), if_neg (by omega), if_neg (by omega), if_neg (by omega), if_neg (by omega), if_neg (by omega), if_pos h]
    · refine ⟨i 124 6, ?_, ?_⟩
      · rw [e29, b29_0 hr, if_neg h11, q30 hr, Option.bind_some, px_psh_some, b29_21 hr, px_bi_T h10, if_neg (by omega), e58, b58_0 hr, if_neg (by omega), if_neg (by omega), if_neg (by omega), if_neg (by omega), if_neg (by omega), if_neg (by omega), if_neg (by omega), if_neg (by omega), if_pos h, Option.bind_some, px_psh_some, b29_32 hr, s6]
      · rw [e235, b235_0 hr, if_neg (by omega), if_neg (by omega), if_neg (by omega), if_neg (by omega), if_neg (by omega), if_neg (by omega), if_neg (by omega), if_neg (by omega), if_pos h]
    · refine ⟨i 124 7, ?_, ?_⟩
      · rw [e29, b29_0 hr, if_neg h11, q30 hr, Option.bind_some, px_psh_some, b29_21 hr, px_bi_T h10, if_neg (by omega), e58, b58_0 hr, if_neg (by omega), if_neg (by omega), if_neg (by omega), if_neg (by omega), if_neg (by omega), if_neg (by omega), if_neg (by omega), if_neg (by omega), if_neg (by omega), if_pos h, Option.bind_some, px_psh_some, b29_32 hr, s7]
      · rw [e235, b235_0 hr, if_neg (by omega), if_neg (by omega), if_neg (by omega), if_neg (by omega), if_neg (by omega), if_neg (by omega), if_neg (by omega), if_neg (by omega), if_neg (by omega), if_pos h]
    · refine ⟨i 124 8, ?_, ?_⟩
      · rw [e29, b29_0 hr, if_neg h11, q30 hr, Option.bind_some, px_psh_some, b29_21 hr, px_bi_T h10, if_neg (by omega), e58, b58_0 hr, if_neg (by omega), if_neg (by omega), if_neg (by omega), if_neg (by omega), if_neg (by omega), if_neg (by omega), if_neg (by omega), if_neg (by omega), if_neg (by omega), if_neg (by omega), if_pos h, Option.bind_some, px_psh_some, b29_32 hr, s8]
      · rw [e235, b235_0 hr, if_neg (by omega), if_neg (by omega), if_neg (by omega), if_neg (by omega), if_neg (by omega), if_neg (by omega), if_neg (by omega), if_neg (by omega), if_neg (by omega), if_neg (by omega), if_pos h]
  have cls : px_C (d + 38 + 1 + 1) 29 [vR 3, vI a] (px_sh L, i, l, r, t) = (px_C (d + 38 + 1) 30 [vI a, vI 20, vI 39] (px_sh L, i, l, r, t)).bind (fun q => px_X (d + 38 + 1 + 1) 29 (px_psh (41, [vR 3, vI a], []) q.1) q.2) := by
    rw [e29, b29_0 hr, if_neg h11, q30 hr, Option.bind_some, px_psh_some, b29_21 hr, px_bi_F h10, if_pos rfl]
  have r290 : a < 200 → px_X (d + 38 + 1 + 1) 235 (290, [vR 123, vI a], []) (px_sh L, i, l, r, t) = some (some (vI (-1000)), (px_sh L, i, l, r, t)) := fun h => by
    rw [b235_290 hr, if_pos h]
  have r258 : a < 100 → px_X (d + 38 + 1 + 1) 235 (258, [vR 123, vI a], []) (px_sh L, i, l, r, t) = some (some (vI (-1000)), (px_sh L, i, l, r, t)) := fun h => by
    rw [b235_258 hr, if_pos h, r290 (by omega)]
  by_cases h20 : 20 ≤ a ∧ a ≤ 39
  · have ht : Int.tmod a 10 = a % 10 := Int.tmod_eq_emod_of_nonneg (by omega)
    have w1 : px_w32 (i 124 3 - 1) = i 124 3 - 1 := ty_w (by omega)
    have w2 : px_w32 (a - 30) = a - 30 := ty_w (by omega)
    have w3 : px_w32 (a - 20) = a - 20 := ty_w (by omega)
    have w4 : px_w32 (2 * (a % 10)) = 2 * (a % 10) := ty_w (by omega)
    have w5 : px_w32 (100 + 2 * (a % 10)) = 100 + 2 * (a % 10) := ty_w (by omega)
    have w6 : px_w32 (100 + 2 * (a % 10) + 1) = 101 + 2 * (a % 10) := by rw [ty_w (by omega)]; omega
    have w7 : px_w32 (100 + 2 * (a % 10) + 0) = 100 + 2 * (a % 10) := by rw [ty_w (by omega)]; omega
    have ref : px_C (d + 38 + 1 + 1) 235 [vR 123, vI a] (px_sh L, i, l, r, t) = px_X (d + 38 + 1 + 1) 235 (173, [vR 123, vI a], [vI (px_bi (0 ≤ a % 10 ∧ a % 10 ≤ i 124 3 - 1))]) (px_sh L, i, l, r, t) := by
      rw [e235, b235_0 hr, if_neg (by omega), if_neg (by omega), if_neg (by omega), if_neg (by omega), if_neg (by omega), if_neg (by omega), if_neg (by omega), if_neg (by omega), if_neg (by omega), if_neg (by omega), if_neg (by omega), if_neg (by omega), if_neg (by omega), if_neg (by omega), ht, w1, q141 hr, Option.bind_some, px_psh_some]
    have hb3 := b235_173 (L := L) (t := t) hr (d + 38 + 1 + 1) i l a
    rw [ht, w4, w5, w6, w7] at hb3
    by_cases h30 : 30 ≤ a
    · by_cases hin : a - 30 < i 124 3
      · refine ⟨i 124 (101 + 2 * (a % 10)), ?_, ?_⟩
        · have hv := (hp (a - 30) (by omega) hin).2.1
          rw [cls, q30 hr, Option.bind_some, px_psh_some, b29_41 hr, px_bi_T h20, if_neg (by omega), e59, b59_0 hr, if_pos h30, w2, b59_17 hr, if_neg (by omega), if_pos (by omega), if_pos h30, q33i hr _ _ _ (px_s15 L) (Nat.le_of_ble_eq_true rfl) _ (by omega), Option.bind_some, px_psh_some, b59_59 hr, Option.bind_some, px_psh_some, b29_52 hr, show i 15 (a - 30) = _ from hv, show 101 + 2 * (a - 30) = 101 + 2 * (a % 10) by omega]
        · rw [ref, px_bi_T (by omega), hb3 _ (fun _ _ => by omega) (fun _ _ => by omega), if_neg (by omega), if_pos h30]
      · refine ⟨-1000, ?_, ?_⟩
        · rw [cls, q30 hr, Option.bind_some, px_psh_some, b29_41 hr, px_bi_T h20, if_neg (by omega), e59, b59_0 hr, if_pos h30, w2, b59_17 hr, if_neg (by omega), if_neg (by omega), Option.bind_some, px_psh_some, b29_52 hr]
        · rw [ref, px_bi_F (by omega), hb3 _ (fun h => absurd rfl h) (fun h => absurd rfl h), if_pos rfl, b235_203 hr, if_pos (by omega), r258 (by omega)]
    · by_cases hin : a - 20 < i 124 3
      · refine ⟨i 124 (100 + 2 * (a % 10)), ?_, ?_⟩
        · have hv := (hp (a - 20) (by omega) hin).1.1
          rw [cls, q30 hr, Option.bind_some, px_psh_some, b29_41 hr, px_bi_T h20, if_neg (by omega), e59, b59_0 hr, if_neg h30, w3, b59_17 hr, if_neg (by omega), if_pos (by omega), if_neg h30, q33i hr _ _ _ (px_s14 L) (Nat.le_of_ble_eq_true rfl) _ (by omega), Option.bind_some, px_psh_some, b59_48 hr, Option.bind_some, px_psh_some, b29_52 hr, show i 14 (a - 20) = _ from hv, show 100 + 2 * (a - 20) = 100 + 2 * (a % 10) by omega]
        · rw [ref, px_bi_T (by omega), hb3 _ (fun _ _ => by omega) (fun _ _ => by omega), if_neg (by omega), if_neg h30]
      · refine ⟨-1000, ?_, ?_⟩
        · rw [cls, q30 hr, Option.bind_some, px_psh_some, b29_41 hr, px_bi_T h20, if_neg (by omega), e59, b59_0 hr, if_neg h30, w3, b59_17 hr, if_neg (by omega), if_neg (by omega), Option.bind_some, px_psh_some, b29_52 hr]
        · rw [ref, px_bi_F (by omega), hb3 _ (fun h => absurd rfl h) (fun h => absurd rfl h), if_pos rfl, b235_203 hr, if_pos (by omega), r258 (by omega)]
  have cls2 : px_C (d + 38 + 1 + 1) 29 [vR 3, vI a] (px_sh L, i, l, r, t) = (px_C (d + 38 + 1) 30 [vI a, vI 40, vI 69] (px_sh L, i, l, r, t)).bind (fun q => px_X (d + 38 + 1 + 1) 29 (px_psh (61, [vR 3, vI a], []) q.1) q.2) := by
    rw [cls, q30 hr, Option.bind_some, px_psh_some, b29_41 hr, px_bi_F h20, if_pos rfl]
  have ref2 : px_C (d + 38 + 1 + 1) 235 [vR 123, vI a] (px_sh L, i, l, r, t) = px_X (d + 38 + 1 + 1) 235 (203, [vR 123, vI a], []) (px_sh L, i, l, r, t) := by
    rw [e235, b235_0 hr, if_neg (by omega), if_neg (by omega), if_neg (by omega), if_neg (by omega), if_neg (by omega), if_neg (by omega), if_neg (by omega), if_neg (by omega), if_neg (by omega), if_neg (by omega), if_neg (by omega), if_neg (by omega), ]
    by_cases h : a < 20
    · rw [if_pos h]
    · rw [if_neg h, if_pos (by omega)]
  by_cases h40 : 40 ≤ a ∧ a ≤ 69
  · have ht : Int.tmod a 10 = a % 10 := Int.tmod_eq_emod_of_nonneg (by omega)
    have w1 : px_w32 (a - 60) = a - 60 := ty_w (by omega)
    have w2 : px_w32 (a - 50) = a - 50 := ty_w (by omega)
    have w3 : px_w32 (a - 40) = a - 40 := ty_w (by omega)
    have cls3 : px_C (d + 38 + 1 + 1) 29 [vR 3, vI a] (px_sh L, i, l, r, t) = (px_C (d + 38 + 1) 60 [vR 4, vI a] (px_sh L, i, l, r, t)).bind (fun q => px_X (d + 38 + 1 + 1) 29 (px_psh (72, [vR 3, vI a], []) q.1) q.2) := by
      rw [cls2, q30 hr, Option.bind_some, px_psh_some, b29_61 hr, px_bi_T h40, if_neg (by omega)]
    have ref3 : px_C (d + 38 + 1 + 1) 235 [vR 123, vI a] (px_sh L, i, l, r, t) = px_X (d + 38 + 1 + 1) 235 (223, [vR 123, vI a], [vI (px_bi (0 ≤ a % 10 ∧ a % 10 < i 124 4))]) (px_sh L, i, l, r, t) := by
      rw [ref2, b235_203 hr, if_neg (by omega), if_neg (by omega), ht, q144 hr _ _ _ _ (by omega), Option.bind_some, px_psh_some]
    by_cases hin : a % 10 < i 124 4
    · have ref4 : ∀ c : Int, (0 ≤ c ∧ c < 14) → px_X (d + 38 + 1 + 1) 235 (254, [vR 123, vI a], [vI c, vI (a % 10), vR 123]) (px_sh L, i, l, r, t) = some (some (vI (i 124 (120 + 14 * (a % 10) + c))), (px_sh L, i, l, r, t)) := fun c hc => by
        rw [b235_254 hr, q146 hr _ _ _ _ _ (by omega) hc, Option.bind_some, px_psh_some, b235_257 hr]
      have hga := hg (a % 10) (by omega) hin
      by_cases h60 : 60 ≤ a
      · refine ⟨i 124 (120 + 14 * (a % 10) + 8), ?_, ?_⟩
        · have hv := hga 8 (by omega) (by omega)
          have hv1 : i (21 + (a % 10).toNat) 8 = _ := hv.1
          have hv2 := hv.2.2.2.2.1 (Or.inr rfl)
          have hv3 := hv.2.1
          rw [cls3, e60, b60_0 hr, if_pos (by omega), if_pos h60, w1, q52R hr _ _ _ _ (by omega), Option.bind_some, px_psh_some, b60_68_g hr _ _ _ _ (px_gs_mk21 (by omega)), show (a - 60).toNat = (a % 10).toNat by omega, hv1]
          by_cases hz : i 124 (120 + 14 * (a % 10) + 8) = 0
          · rw [if_pos hz, Option.bind_some, px_psh_some, b29_72 hr, hz]
          · rw [if_neg hz, Option.bind_some, px_psh_some, b29_72 hr, show i 124 (120 + 14 * (a % 10) + 8) = 1 by omega]
        · rw [ref3, px_bi_T (by omega), b235_223 hr, if_neg (by omega), if_pos (by omega), if_pos h60, ht, ref4 8 (by omega)]
      · by_cases h50 : 50 ≤ a
        · refine ⟨i 124 (120 + 14 * (a % 10) + 7), ?_, ?_⟩
          · have hv1 : i (21 + (a % 10).toNat) 7 = _ := (hga 7 (by omega) (by omega)).1
            rw [cls3, e60, b60_0 hr, if_pos h50, if_neg h60, w2, q52R hr _ _ _ _ (by omega), Option.bind_some, px_psh_some, b60_44_g hr _ _ _ _ (px_gs_mk21 (by omega)), show (a - 50).toNat = (a % 10).toNat by omega, hv1, Option.bind_some, px_psh_some, b29_72 hr]
          · rw [ref3, px_bi_T (by omega), b235_223 hr, if_neg (by omega), if_pos h50, if_neg h60, ht, ref4 7 (by omega)]
        · refine ⟨i 124 (120 + 14 * (a % 10) + 0), ?_, ?_⟩
          · have hv1 : i (21 + (a % 10).toNat) 0 = _ := (hga 0 (by omega) (by omega)).1
            rw [cls3, e60, b60_0 hr, if_neg h50, w3, q52R hr _ _ _ _ (by omega), Option.bind_some, px_psh_some, b60_14_g hr _ _ _ _ (px_gs_mk21 (by omega)), show (a - 40).toNat = (a % 10).toNat by omega, hv1, Option.bind_some, px_psh_some, b29_72 hr]
          · rw [ref3, px_bi_T (by omega), b235_223 hr, if_neg (by omega), if_neg h50, ht, ref4 0 (by omega)]
    · refine ⟨-1000, ?_, ?_⟩
      · by_cases h60 : 60 ≤ a
        · rw [cls3, e60, b60_0 hr, if_pos (by omega), if_pos h60, w1, q52N hr _ _ _ _ (by omega), Option.bind_some, px_psh_some, b60_68_N hr, Option.bind_some, px_psh_some, b29_72 hr]
        · by_cases h50 : 50 ≤ a
          · rw [cls3, e60, b60_0 hr, if_pos h50, if_neg h60, w2, q52N hr _ _ _ _ (by omega), Option.bind_some, px_psh_some, b60_44_N hr, Option.bind_some, px_psh_some, b29_72 hr]
          · rw [cls3, e60, b60_0 hr, if_neg h50, w3, q52N hr _ _ _ _ (by omega), Option.bind_some, px_psh_some, b60_14_N hr, Option.bind_some, px_psh_some, b29_72 hr]
      · rw [ref3, px_bi_F (by omega), b235_223 hr, if_pos rfl, r258 (by omega)]
  have ref5 : px_C (d + 38 + 1 + 1) 235 [vR 123, vI a] (px_sh L, i, l, r, t) = px_X (d + 38 + 1 + 1) 235 (258, [vR 123, vI a], []) (px_sh L, i, l, r, t) := by
    rw [ref2, b235_203 hr]
    by_cases h : a < 40
    · rw [if_pos h]
    · rw [if_neg h, if_pos (by omega)]
  have cls5 : px_C (d + 38 + 1 + 1) 29 [vR 3, vI a] (px_sh L, i, l, r, t) = px_X (d + 38 + 1 + 1) 29 (87, [vR 3, vI a], [vI (px_bi (0 ≤ px_w32 (a - 100) ∧ px_w32 (a - 100) < i 123 2))]) (px_sh L, i, l, r, t) := by
    rw [cls2, q30 hr, Option.bind_some, px_psh_some, b29_61 hr, px_bi_F h40, if_pos rfl, q37 hr, Option.bind_some, px_psh_some, e19]
  have cls6 : ¬ (0 ≤ px_w32 (a - 100) ∧ px_w32 (a - 100) < i 123 2) → px_C (d + 38 + 1 + 1) 29 [vR 3, vI a] (px_sh L, i, l, r, t) = px_X (d + 38 + 1 + 1) 29 (120, [vR 3, vI a], [vI (px_bi (0 ≤ px_w32 (a - 200) ∧ px_w32 (a - 200) < i 123 2))]) (px_sh L, i, l, r, t) := fun h => by
    rw [cls5, px_bi_F h, b29_87 hr, if_pos rfl, q37 hr, Option.bind_some, px_psh_some, e19]
  by_cases h100 : a < 100
  · refine ⟨-1000, ?_, by rw [ref5, r258 h100]⟩
    have n1 := ty_w32_lo ha (k := 100) (by omega) h100
    have n2 := ty_w32_lo ha (k := 200) (by omega) (by omega)
    rw [cls6 (by omega), px_bi_F (by omega), b29_120 hr, if_pos rfl]
  have w1 : px_w32 (a - 100) = a - 100 := ty_w (by unfold px_r32 at ha; omega)
  by_cases hin : a - 100 < i 123 2
  · have w2 : px_w32 (2 * (a - 100)) = 2 * (a - 100) := ty_w (by omega)
    have w3 : px_w32 (20 + 2 * (a - 100)) = 20 + 2 * (a - 100) := ty_w (by omega)
    have hv : i 20 (a - 100) = i 124 (20 + 2 * (a - 100)) := (hb.2.2 (a - 100) (by omega) hin).1
    refine ⟨i 124 (20 + 2 * (a - 100)), ?_, ?_⟩
    · rw [cls5, w1, px_bi_T (by omega), b29_87 hr, if_neg (by omega), w1, e38, b38_0 hr, q33i hr _ _ _ (px_s20 L) (Nat.le_of_ble_eq_true rfl) _ (by omega), Option.bind_some, px_psh_some, b38_8 hr, Option.bind_some, px_psh_some, b29_104 hr, hv]
    · have hb3 := b235_272 (L := L) (t := t) hr (d + 38 + 1 + 1) i l a 1
      rw [w1, w2, w3] at hb3
      rw [ref5, b235_258 hr, if_neg h100, w1, q143 hr _ _ _ _ (by omega), Option.bind_some, px_psh_some, px_bi_T (by omega), hb3 (fun _ => by omega), if_neg (by omega)]
  have cls7 := cls6 (by rw [w1]; omega)
  have ref7 : px_C (d + 38 + 1 + 1) 235 [vR 123, vI a] (px_sh L, i, l, r, t) = px_X (d + 38 + 1 + 1) 235 (290, [vR 123, vI a], []) (px_sh L, i, l, r, t) := by
    rw [ref5, b235_258 hr, if_neg h100, w1, q143 hr _ _ _ _ (by omega), Option.bind_some, px_psh_some, px_bi_F (by omega), b235_272 hr _ _ _ _ _ (fun h => absurd rfl h), if_pos rfl]
  by_cases h200 : a < 200
  · refine ⟨-1000, ?_, by rw [ref7, r290 h200]⟩
    have n2 := ty_w32_lo ha (k := 200) (by omega) h200
    rw [cls7, px_bi_F (by omega), b29_120 hr, if_pos rfl]
  have w8 : px_w32 (a - 200) = a - 200 := ty_w (by unfold px_r32 at ha; omega)
  have ref8 : px_C (d + 38 + 1 + 1) 235 [vR 123, vI a] (px_sh L, i, l, r, t) = px_X (d + 38 + 1 + 1) 235 (306, [vR 123, vI a], [vI (px_bi (0 ≤ a - 200 ∧ a - 200 < i 123 2))]) (px_sh L, i, l, r, t) := by
    rw [ref7, b235_290 hr, if_neg h200, w8, q143 hr _ _ _ _ (by omega), Option.bind_some, px_psh_some]
  rw [w8] at cls7
  by_cases hin2 : a - 200 < i 123 2
  · have w2 : px_w32 (2 * (a - 200)) = 2 * (a - 200) := ty_w (by omega)
    have w3 : px_w32 (20 + 2 * (a - 200)) = 20 + 2 * (a - 200) := ty_w (by omega)
    have w4 : px_w32 (20 + 2 * (a - 200) + 1) = 21 + 2 * (a - 200) := by rw [ty_w (by omega)]; omega
    have hv : i 124 (21 + 2 * (a - 200)) = (if ty_bit (l 19 7) (a - 200) = true then 1 else 0) := (hb.2.2 (a - 200) (by omega) hin2).2.2.2
    have hsh : 0 ≤ l 19 7 ∧ l 19 7 < 2 ^ (i 123 2).toNat := hb.2.1
    have hp36 := ty_p36 hdim.2
    have hbit := ty_lbit_i (x := l 19 7) (k := a - 200) (by omega) (by omega)
    refine ⟨i 124 (21 + 2 * (a - 200)), ?_, ?_⟩
    · rw [cls7, px_bi_T (by omega), b29_120 hr, if_neg (by omega), w8, e39, b39_0 hr, q37 hr, Option.bind_some, px_psh_some, e19, px_bi_T (by omega), b39_5 hr, if_neg (by omega), hbit]
      by_cases hz : ty_bit (l 19 7) (a - 200) = true
      · rw [if_pos hz] at hv
        rw [if_pos hz, if_pos (by decide), Option.bind_some, px_psh_some, b29_138 hr, if_neg (by omega), hv]
      · rw [if_neg hz] at hv
        rw [if_neg hz, if_neg (by decide), Option.bind_some, px_psh_some, b29_138 hr, if_pos rfl, hv]
    · have hb3 := b235_306 (L := L) (t := t) hr (d + 38 + 1 + 1) i l a 1
      rw [w8, w2, w3, w4] at hb3
      rw [ref8, px_bi_T (by omega), hb3 (fun _ => by omega), if_neg (by omega)]
  · refine ⟨-1000, ?_, ?_⟩
    · rw [cls7, px_bi_F (by omega), b29_120 hr, if_pos rfl]
    · rw [ref8, px_bi_F (by omega), b235_306 hr _ _ _ _ _ (fun h => absurd rfl h), if_pos rfl]
