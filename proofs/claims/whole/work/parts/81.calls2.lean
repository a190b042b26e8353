/-! end, fault, sky, horse. -/
theorem ok_end (a : Int) : ty_ok ty_CR 8 155 [vI a] := by
  intro L t r hr n d i l hn hc
  have hc' := ty_CR_mono hc
  obtain ⟨hD, h0, h27, hT, hY⟩ := hc
  have hdim := ty_D_2 hD
  have hl := hT.1
  have hs := h0.2.1
  have b5 := hs.2.2.2.2.1
  have b6 := hs.2.2.2.2.2.1
  by_cases hin : 0 ≤ a ∧ a ≤ i 123 6
  · refine ⟨a, px_up i 58 1 a, l, px_up (px_up i 58 1 a) 123 6 a, l, ?_, ?_, ?_, rfl, rfl⟩
    · show px_C (d + 39 + 1) 8 [vR 3, vI a] _ = _
      rw [e8, b8_0 hr, q30 hr, hl.1, Option.bind_some, px_psh_some, b8_12 hr, px_bi_T hin, if_neg (by omega)]
    · show px_C (d + 39 + 1) 155 [vR 123, vI a] _ = _
      rw [e155, b155_0 hr, q141 hr, show px_up i 58 1 a 123 6 = i 123 6 from rfl, Option.bind_some, px_psh_some, b155_9 hr, px_bi_T hin, if_neg (by omega)]
    · refine ⟨ty_D_c (i := i) (l := l) rfl rfl rfl rfl rfl rfl rfl rfl rfl (ty_gs_fr (fun k k0 k1 => by rw [ty_up_row (by omega), ty_up_row (by omega)])) hD, ty_H_same 0 124 (i := i) (l := l) (fun k k0 k1 => by rw [ty_up_row (by omega), ty_up_row (by omega)]) rfl rfl rfl (by omega) h0,
        ty_H_same 27 125 (i := i) (l := l) (fun k k0 k1 => by rw [ty_up_row (by omega), ty_up_row (by omega)]) rfl rfl rfl (by omega) h27, ⟨⟨rfl, hin.1, ?_⟩, fun x x0 x1 => hT.2.1 x x0 ?_, hT.2.2.1, hT.2.2.2.1, hT.2.2.2.2⟩,
        ty_Y_c (i := i) (show i 4 8 ≤ 5 by have : i (4 + 0) 8 = i 124 6 := b6.1; have : i 4 8 = i 124 6 := this; omega) (by omega) rfl rfl (fun k k0 k1 => by rw [ty_up_row (by omega), ty_up_row (by omega)]) (fun k k0 k1 => by rw [ty_up_row (by omega), ty_up_row (by omega)]) (fun m m0 m1 => Or.inr ⟨rfl, rfl, rfl, rfl⟩) rfl rfl hY⟩
      · show a ≤ 300
        omega
      · have : x < a := x1
        omega
  · refine ⟨-1, i, l, i, l, ?_, ?_, hc', rfl, rfl⟩
    · show px_C (d + 39 + 1) 8 [vR 3, vI a] _ = _
      rw [e8, b8_0 hr, q30 hr, hl.1, Option.bind_some, px_psh_some, b8_12 hr, px_bi_F hin, if_pos rfl]
    · show px_C (d + 39 + 1) 155 [vR 123, vI a] _ = _
      rw [e155, b155_0 hr, q141 hr, Option.bind_some, px_psh_some, b155_9 hr, px_bi_F hin, if_pos rfl]
theorem ok_fault (a : Int) : ty_ok ty_CR 10 182 [vI a] := by
  intro L t r hr n d i l hn hc
  have hc' := ty_CR_mono hc
  obtain ⟨hD, h0, h27, hT, hY⟩ := hc
  obtain ⟨t1, t2, t3, t4, t5⟩ := hT
  have hm : px_C (d + 40) 182 [vR 123, vI a] (px_sh L, i, l, r, t) = some (some (vI (if a = 0 then i 123 7 else if a = 1 then i 123 8 else -1)), (px_sh L, i, l, r, t)) := by
    rw [e182, b182_0 hr]
    by_cases h0 : a = 0
    · rw [if_pos h0, if_pos h0]
    · rw [if_neg h0, if_neg h0]
      by_cases h1 : a = 1
      · rw [if_pos h1, if_pos h1]
      · rw [if_neg h1, if_neg h1]
  refine ⟨_, i, l, i, l, ?_, hm, hc', rfl, rfl⟩
  show px_C (d + 39 + 1) 10 [vR 3, vI a] _ = _
  by_cases h2 : i 58 2 = 0
  · rw [e10, b10_0 hr, if_pos h2, (t4 h2).1, (t4 h2).2]
    by_cases h0 : a = 0
    · rw [if_pos h0]
    · rw [if_neg h0]
      by_cases h1 : a = 1
      · rw [if_pos h1]
      · rw [if_neg h1]
  · have h21 : i 58 2 = 1 := by omega
    rw [e10, b10_0 hr, if_neg h2, q30 hr, Option.bind_some, px_psh_some, b10_16 hr]
    by_cases hin : 0 ≤ a ∧ a ≤ 1
    · rw [px_bi_T hin, if_neg (by omega), (t5 h21).1, (t5 h21).2]
      by_cases h0 : a = 0
      · rw [if_pos h0, if_pos h0]
      · rw [if_neg h0, if_neg h0, if_pos (by omega)]
    · rw [px_bi_F hin, if_pos rfl, if_neg (by omega), if_neg (by omega)]
theorem ok_sky (a b : Int) : ty_ok ty_CR 3 149 [vI a, vI b] := by
  intro L t r hr n d i l hn hc
  have hc' := ty_CR_mono hc
  obtain ⟨hD, h0, h27, hT, hY⟩ := hc
  have hdim := ty_D_2 hD
  show ∃ (v : Int) (i1 l1 i2 l2 : MI), px_C (d + 38 + 1 + 1) 3 [vR 3, vI a, vI b] _ = _ ∧ px_C (d + 38 + 1 + 1) 149 [vR 123, vI a, vI b] _ = _ ∧ _
  by_cases hin : -9 ≤ a ∧ a ≤ 9
  · by_cases hin2 : 0 ≤ b ∧ b ≤ 9
    · refine ⟨1, px_un (px_up (px_up i 4 3 a) 4 4 b) 70 (fun j => if 0 ≤ j ∧ j < 1440 then -1 else i 70 j), l, px_up (px_up (px_un (px_up (px_up i 4 3 a) 4 4 b) 70 (fun j => if 0 ≤ j ∧ j < 1440 then -1 else i 70 j)) 124 1 a) 124 2 b, l, ?_, ?_, ?_, rfl, rfl⟩
      · rw [e3, b3_0 hr, q30 hr, Option.bind_some, px_psh_some, b3_8 hr, px_bi_T hin, if_neg (by omega), q30 hr, Option.bind_some, px_psh_some, b3_18 hr, px_bi_T hin2, if_neg (by omega), q63 hr, Option.bind_some, px_psh_none, b3_46 hr]
        rfl
      · rw [e149, b149_0 hr, q141 hr, Option.bind_some, px_psh_some, b149_8 hr, px_bi_T hin, if_neg (by omega), q141 hr, Option.bind_some, px_psh_some, b149_18 hr, px_bi_T hin2, if_neg (by omega)]
      · obtain ⟨hb, hs, hp, hg, ho, hh, hl, hnn⟩ := h0
        have b3 := hs.2.2.1
        have b4 := hs.2.2.2.1
        have b5 := hs.2.2.2.2.1
        have b6 := hs.2.2.2.2.2.1
        have b7 := hs.2.2.2.2.2.2.1
        have b8 := hs.2.2.2.2.2.2.2
        have hA : ∀ x : Int, x ≠ 1 → x ≠ 2 → (px_up (px_up (px_un (px_up (px_up i 4 3 a) 4 4 b) 70 (fun j => if 0 ≤ j ∧ j < 1440 then -1 else i 70 j)) 124 1 a) 124 2 b) 124 x = i 124 x := fun x hx hx2 => by
          rw [ty_up_j hx2, ty_up_j hx]
          rfl
        have hR : ∀ k, k ≠ 4 → k ≠ 70 → k ≠ 124 → (px_up (px_up (px_un (px_up (px_up i 4 3 a) 4 4 b) 70 (fun j => if 0 ≤ j ∧ j < 1440 then -1 else i 70 j)) 124 1 a) 124 2 b) k = i k := fun k k0 k1 k2 => by
          rw [ty_up_row k2, ty_up_row k2, ty_un_row k1, ty_up_row k0, ty_up_row k0]
        refine ⟨ty_D_c (i := i) (l := l) rfl rfl rfl rfl rfl rfl rfl rfl rfl (ty_gs_fr (fun k k0 k1 => hR k (by omega) (by omega) (by omega))) hD, ⟨ty_Hb_c (i := i) (l := l) rfl rfl rfl rfl (by omega) (fun x hx => hA x (by omega) (by omega)) hb, ?_, ty_Hp_c rfl rfl b3.2.2 (fun x hx => hA x (by omega) (by omega)) hp,
          ty_Hg_c (fun k hk => hR _ (by omega) (by omega) (by omega)) b4.2.2 (fun x hx => hA x (by omega) (by omega)) hg, ty_Ho_c rfl b4.2.2 (fun x hx => hA x (by omega) (by omega)) ho, ty_Hh_c rfl b7.2.2 (fun x hx => hA x (by omega) (by omega)) hh,
          ty_Hl_c rfl rfl rfl b8.2.2 (by rw [hA 4 (by omega) (by omega)]; omega) (by rw [hA 3 (by omega) (by omega)]; omega) (fun x hx => hA x (by omega) (by omega)) hl, ty_Hn_c rfl rfl rfl rfl rfl (fun x hx => hA x (by omega) (by omega)) hnn⟩,
          ty_H_same 27 125 (i := i) (l := l) (fun k k0 k1 => hR _ (by omega) (by omega) (by omega)) rfl rfl rfl (by omega) h27, ty_T_c rfl rfl rfl rfl rfl rfl rfl rfl rfl hT,
          ty_Y_c (i := i) (show i 4 8 ≤ 5 by have : i (4 + 0) 8 = i 124 6 := b6.1; have : i 4 8 = i 124 6 := this; omega) (by omega) (hA 5 (by omega) (by omega)) rfl (fun k k0 k1 => hR _ (by omega) (by omega) (by omega)) (fun k k0 k1 => hR _ (by omega) (by omega) (by omega)) (fun m m0 m1 => Or.inl (show (if 0 ≤ m ∧ m < 1440 then (-1 : Int) else i 70 m) = -1 from if_pos ⟨m0, m1⟩)) rfl rfl hY⟩
        exact ⟨⟨rfl, hin⟩, ⟨rfl, hin2⟩, hs.2.2⟩
    · refine ⟨0, i, l, i, l, ?_, ?_, hc', rfl, rfl⟩
      · rw [e3, b3_0 hr, q30 hr, Option.bind_some, px_psh_some, b3_8 hr, px_bi_T hin, if_neg (by omega), q30 hr, Option.bind_some, px_psh_some, b3_18 hr, px_bi_F hin2, if_pos rfl]
      · rw [e149, b149_0 hr, q141 hr, Option.bind_some, px_psh_some, b149_8 hr, px_bi_T hin, if_neg (by omega), q141 hr, Option.bind_some, px_psh_some, b149_18 hr, px_bi_F hin2, if_pos rfl]
  · refine ⟨0, i, l, i, l, ?_, ?_, hc', rfl, rfl⟩
    · rw [e3, b3_0 hr, q30 hr, Option.bind_some, px_psh_some, b3_8 hr, px_bi_F hin, if_pos rfl]
    · rw [e149, b149_0 hr, q141 hr, Option.bind_some, px_psh_some, b149_8 hr, px_bi_F hin, if_pos rfl]
