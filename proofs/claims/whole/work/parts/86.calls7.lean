/-! by. -/
theorem ok_by (a : Int) : ty_ok ty_CR 11 186 [vI a] := by
  intro L t r hr n d i l hn hc
  have hc' := ty_CR_mono hc
  obtain ⟨hD, h0, h27, hT, hY⟩ := hc
  have hdim := ty_D_2 hD
  obtain ⟨hb, hs, hp, hg, ho, hh, hl, hnn⟩ := h0
  have b3 := hs.2.2.1
  have b4 := hs.2.2.2.1
  have b5 := hs.2.2.2.2.1
  have b6 := hs.2.2.2.2.2.1
  have b7 := hs.2.2.2.2.2.2.1
  have b8 := hs.2.2.2.2.2.2.2
  have e47 : i 4 7 = i 124 5 := b5.1
  have e48 : i 4 8 = i 124 6 := b6.1
  have w1 : px_w32 (i 124 5 - 1) = i 124 5 - 1 := ty_w (by omega)
  show ∃ (v : Int) (i1 l1 i2 l2 : MI), px_C (d + 38 + 1 + 1) 11 [vR 3, vI a] _ = _ ∧ px_C (d + 38 + 1 + 1) 186 [vR 123, vI a] _ = _ ∧ _
  by_cases hin : -1 ≤ a ∧ a ≤ i 124 5 - 1
  · refine ⟨1, (px_un (px_up i 4 8 a) 70 (fun j => if 0 ≤ j ∧ j < 1440 then -1 else i 70 j)), l, (px_up (px_un (px_up i 4 8 a) 70 (fun j => if 0 ≤ j ∧ j < 1440 then -1 else i 70 j)) 124 6 a), l, ?_, ?_, ?_, rfl, rfl⟩
    · rw [e11, b11_0 hr, e47, w1, q30 hr, Option.bind_some, px_psh_some, b11_14 hr, px_bi_T hin, if_neg (by omega), q63 hr, Option.bind_some, px_psh_none, b11_34 hr]
      rfl
    · rw [e186, b186_0 hr]
      by_cases h1 : a = -1
      · rw [if_pos h1]
      · rw [if_neg h1, show (px_un (px_up i 4 8 a) 70 (fun j => if 0 ≤ j ∧ j < 1440 then -1 else i 70 j)) 124 5 = i 124 5 from rfl, w1, q141 hr, Option.bind_some, px_psh_some, b186_18 hr, px_bi_T (by omega), if_neg (by omega)]
    · have hA : ∀ x : Int, x ≠ 6 → (px_up (px_un (px_up i 4 8 a) 70 (fun j => if 0 ≤ j ∧ j < 1440 then -1 else i 70 j)) 124 6 a) 124 x = i 124 x := fun x hx => by
        rw [ty_up_j hx]
        rfl
      have hR : ∀ k, k ≠ 4 → k ≠ 70 → k ≠ 124 → (px_up (px_un (px_up i 4 8 a) 70 (fun j => if 0 ≤ j ∧ j < 1440 then -1 else i 70 j)) 124 6 a) k = i k := fun k k0 k1 k2 => by
        rw [ty_up_row k2, ty_un_row k1, ty_up_row k0]
      refine ⟨ty_D_c (i := i) (l := l) (by rw [hR _ (by omega) (by omega) (by omega)]) (by rw [hR _ (by omega) (by omega) (by omega)]) (by rw [hR _ (by omega) (by omega) (by omega)]) (by rw [hR _ (by omega) (by omega) (by omega)]) (by rw [hR _ (by omega) (by omega) (by omega)]) (by rw [hR _ (by omega) (by omega) (by omega)]) rfl rfl rfl (ty_gs_fr (fun k k0 k1 => hR k (by omega) (by omega) (by omega))) hD,
        ⟨ty_Hb_c (i := i) (l := l) (by rw [hR _ (by omega) (by omega) (by omega)]) rfl (by rw [hR _ (by omega) (by omega) (by omega)]) (hR _ (by omega) (by omega) (by omega)) (by omega) (fun x hx => hA x (by omega)) hb, ?_, ty_Hp_c (hR _ (by omega) (by omega) (by omega)) (hR _ (by omega) (by omega) (by omega)) b3.2.2 (fun x hx => hA x (by omega)) hp,
        ty_Hg_c (fun k hk => (hR _ (by omega) (by omega) (by omega))) b4.2.2 (fun x hx => hA x (by omega)) hg, ty_Ho_c (hR _ (by omega) (by omega) (by omega)) b4.2.2 (fun x hx => hA x (by omega)) ho, ty_Hh_c (hR _ (by omega) (by omega) (by omega)) b7.2.2 (fun x hx => hA x (by omega)) hh,
        ty_Hl_c (hR _ (by omega) (by omega) (by omega)) (hR _ (by omega) (by omega) (by omega)) (hR _ (by omega) (by omega) (by omega)) b8.2.2 (by rw [hA 4 (by omega)]; omega) (by rw [hA 3 (by omega)]; omega) (fun x hx => hA x (by omega)) hl,
        ty_Hn_c (hR _ (by omega) (by omega) (by omega)) (hR _ (by omega) (by omega) (by omega)) (hR _ (by omega) (by omega) (by omega)) (hR _ (by omega) (by omega) (by omega)) (hR _ (by omega) (by omega) (by omega)) (fun x hx => hA x (by omega)) hnn⟩,
        ty_H_same 27 125 (i := i) (l := l) (fun k k0 k1 => (hR _ (by omega) (by omega) (by omega))) (hR _ (by omega) (by omega) (by omega)) (by rw [hR _ (by omega) (by omega) (by omega)]) rfl (by omega) h27,
        ty_T_c (by rw [hR _ (by omega) (by omega) (by omega)]) (by rw [hR _ (by omega) (by omega) (by omega)]) (by rw [hR _ (by omega) (by omega) (by omega)]) (by rw [hR _ (by omega) (by omega) (by omega)]) (by rw [hR _ (by omega) (by omega) (by omega)]) (by rw [hR _ (by omega) (by omega) (by omega)]) (by rw [hR _ (by omega) (by omega) (by omega)]) (hR _ (by omega) (by omega) (by omega)) (hR _ (by omega) (by omega) (by omega)) hT,
        ty_Y_c (i := i) (by omega) (by omega) (hA 5 (by omega)) (by rw [hR _ (by omega) (by omega) (by omega)]) (fun k k0 k1 => (hR _ (by omega) (by omega) (by omega))) (fun k k0 k1 => (hR _ (by omega) (by omega) (by omega))) (fun m m0 m1 => Or.inl (show (if 0 ≤ m ∧ m < 1440 then (-1 : Int) else i 70 m) = -1 from if_pos ⟨m0, m1⟩)) (by rw [hR _ (by omega) (by omega) (by omega)]) (hR _ (by omega) (by omega) (by omega)) hY⟩
      exact ⟨hs.1, hs.2.1, hs.2.2.1, hs.2.2.2.1, hs.2.2.2.2.1, ⟨rfl, hin.1, show a < i 124 5 by omega⟩, hs.2.2.2.2.2.2⟩
  · refine ⟨0, i, l, i, l, ?_, ?_, hc', rfl, rfl⟩
    · rw [e11, b11_0 hr, e47, w1, q30 hr, Option.bind_some, px_psh_some, b11_14 hr, px_bi_F hin, if_pos rfl]
    · rw [e186, b186_0 hr, if_neg (by omega), w1, q141 hr, Option.bind_some, px_psh_some, b186_18 hr, px_bi_F (by omega), if_pos rfl]
