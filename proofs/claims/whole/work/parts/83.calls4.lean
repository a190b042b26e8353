/-! perch. -/
theorem ok_perch (a b : Int) : ty_ok ty_CR 4 150 [vI a, vI b] := by
  intro L t r hr n d i l hn hc
  have hc' := ty_CR_mono hc
  obtain ⟨hD, h0, h27, hT, hY⟩ := hc
  have hdim := ty_D_2 hD
  obtain ⟨hb, hs, hp, hg, ho, hh, hl, hnn⟩ := h0
  have b3 := hs.2.2.1
  have b4 := hs.2.2.2.1
  have b5 := hs.2.2.2.2.1
  have b6 := hs.2.2.2.2.2.1
  have b7 := hs.2.2.2.2.2.2.1
  have b8 := hs.2.2.2.2.2.2.2
  have e45 : i 4 5 = i 124 3 := b3.1
  have e48 : i 4 8 = i 124 6 := b6.1
  show ∃ (v : Int) (i1 l1 i2 l2 : MI), px_C (d + 38 + 1 + 1) 4 [vR 3, vI a, vI b] _ = _ ∧ px_C (d + 38 + 1 + 1) 150 [vR 123, vI a, vI b] _ = _ ∧ _
  by_cases hin : 0 ≤ a ∧ a ≤ 99
  · by_cases hin2 : 1 ≤ b ∧ b ≤ 4
    · by_cases h7 : i 124 3 < 8
      · have w1 : px_w32 (i 124 3 + 1) = i 124 3 + 1 := ty_w (by omega)
        have w1' : px_w32 (i 124 3 + 1 - 1) = i 124 3 := by rw [ty_w (by omega)]; omega
        have w2 : px_w32 (2 * i 124 3) = 2 * i 124 3 := ty_w (by omega)
        have w3 : px_w32 (100 + 2 * i 124 3) = 100 + 2 * i 124 3 := ty_w (by omega)
        have w4 : px_w32 (100 + 2 * i 124 3 + 1) = 101 + 2 * i 124 3 := by rw [ty_w (by omega)]; omega
        have hi1 : ∃ i1 : MI, i1 = px_up (px_up (px_up i 14 (i 124 3) a) 15 (i 124 3) b) 4 5 (i 124 3 + 1) := ⟨_, rfl⟩
        obtain ⟨i1, hi1⟩ := hi1
        have e7 : i1 124 3 = i 124 3 := by rw [hi1]; rfl
        have u1 : (px_up i1 124 (100 + 2 * i 124 3) a) 124 3 = i 124 3 := by rw [ty_up_j (by omega), e7]
        have u2 : (px_up (px_up i1 124 (100 + 2 * i 124 3) a) 124 (101 + 2 * i 124 3) b) 124 3 = i 124 3 := by rw [ty_up_j (by omega), u1]
        have hm := b150_16 (L := L) (t := t) hr (d + 38 + 1 + 1) i1 l a b 1
        rw [e7, w2, w3, u1, w2, w3, w4, u2, w1, w1'] at hm
        have hm := hm (fun _ _ => by omega) (fun _ _ => by omega)
        rw [if_neg (by omega), if_neg (by omega)] at hm
        refine ⟨i 124 3, i1, l, (px_up (px_up (px_up i1 124 (100 + 2 * i 124 3) a) 124 (101 + 2 * i 124 3) b) 124 3 (i 124 3 + 1)), l, ?_, ?_, ?_, ?_, ?_⟩
        · rw [e4, b4_0 hr, q30 hr, Option.bind_some, px_psh_some, b4_7 hr, px_bi_T hin, if_neg (by omega), q30 hr, Option.bind_some, px_psh_some, b4_16 hr, px_bi_T hin2, if_neg (by omega), e45, if_pos h7, e55, b55_0 hr, e45, q34i hr _ _ _ (px_s14 L) (Nat.le_of_ble_eq_true rfl) _ _ (show 0 ≤ i 124 3 ∧ i 124 3 < ((8 : Nat) : Int) by omega), Option.bind_some, px_psh_none, b55_12 hr,
            show px_up i 14 (i 124 3) a 4 5 = i 4 5 from rfl, e45, q34i hr _ _ _ (px_s15 L) (Nat.le_of_ble_eq_true rfl) _ _ (show 0 ≤ i 124 3 ∧ i 124 3 < ((8 : Nat) : Int) by omega), Option.bind_some, px_psh_none, b55_24 hr, show px_up (px_up i 14 (i 124 3) a) 15 (i 124 3) b 4 5 = i 4 5 from rfl, e45, w1, w1', Option.bind_some, px_psh_some, b4_42 hr, hi1]
        · rw [e150, b150_0 hr, q141 hr, Option.bind_some, px_psh_some, b150_7 hr, px_bi_T hin, if_neg (by omega), q141 hr, Option.bind_some, px_psh_some, px_bi_T hin2]
          exact hm
        · have hA : ∀ x : Int, x ≠ 3 → x ≠ 100 + 2 * i 124 3 → x ≠ 101 + 2 * i 124 3 → (px_up (px_up (px_up i1 124 (100 + 2 * i 124 3) a) 124 (101 + 2 * i 124 3) b) 124 3 (i 124 3 + 1)) 124 x = i 124 x := fun x hx hx2 hx3 => by
            rw [ty_up_j hx, ty_up_j hx3, ty_up_j hx2, hi1]
            rfl
          have hR : ∀ k, k ≠ 4 → k ≠ 14 → k ≠ 15 → k ≠ 124 → k ≠ 124 → (px_up (px_up (px_up i1 124 (100 + 2 * i 124 3) a) 124 (101 + 2 * i 124 3) b) 124 3 (i 124 3 + 1)) k = i k := fun k k0 k1 k2 k3 _ => by
            rw [ty_up_row k3, ty_up_row k3, ty_up_row k3, hi1, ty_up_row k0, ty_up_row k2, ty_up_row k1]
          have h4 : ∀ x : Int, x ≠ 5 → (px_up (px_up (px_up i1 124 (100 + 2 * i 124 3) a) 124 (101 + 2 * i 124 3) b) 124 3 (i 124 3 + 1)) 4 x = i 4 x := fun x hx => by
            rw [ty_up_k (by decide), ty_up_k (by decide), ty_up_k (by decide), hi1, ty_up_j hx]
            rfl
          have h45 : (px_up (px_up (px_up i1 124 (100 + 2 * i 124 3) a) 124 (101 + 2 * i 124 3) b) 124 3 (i 124 3 + 1)) 4 5 = i 124 3 + 1 := by
            rw [ty_up_k (by decide), ty_up_k (by decide), ty_up_k (by decide), hi1, ty_up_eq]
          have hA3 : (px_up (px_up (px_up i1 124 (100 + 2 * i 124 3) a) 124 (101 + 2 * i 124 3) b) 124 3 (i 124 3 + 1)) 124 3 = i 124 3 + 1 := ty_up_eq
          have h14 : ∀ x : Int, (px_up (px_up (px_up i1 124 (100 + 2 * i 124 3) a) 124 (101 + 2 * i 124 3) b) 124 3 (i 124 3 + 1)) 14 x = if x = i 124 3 then a else i 14 x := fun x => by
            rw [ty_up_k (by decide), ty_up_k (by decide), ty_up_k (by decide), hi1, ty_up_k (by decide), ty_up_k (by decide)]
            by_cases hx : x = i 124 3
            · rw [if_pos hx, hx, ty_up_eq]
            · rw [if_neg hx, ty_up_j hx]
          have h15 : ∀ x : Int, (px_up (px_up (px_up i1 124 (100 + 2 * i 124 3) a) 124 (101 + 2 * i 124 3) b) 124 3 (i 124 3 + 1)) 15 x = if x = i 124 3 then b else i 15 x := fun x => by
            rw [ty_up_k (by decide), ty_up_k (by decide), ty_up_k (by decide), hi1, ty_up_k (by decide)]
            by_cases hx : x = i 124 3
            · rw [if_pos hx, hx, ty_up_eq]
            · rw [if_neg hx, ty_up_j hx, ty_up_k (by decide)]
          refine ⟨ty_D_c (i := i) (l := l) (by rw [hR _ (by decide) (by decide) (by decide) (by decide) (by decide)]) (by rw [hR _ (by decide) (by decide) (by decide) (by decide) (by decide)]) (by rw [hR _ (by decide) (by decide) (by decide) (by decide) (by decide)]) (by rw [hR _ (by decide) (by decide) (by decide) (by decide) (by decide)]) (by rw [hR _ (by decide) (by decide) (by decide) (by decide) (by decide)]) (by rw [hR _ (by decide) (by decide) (by decide) (by decide) (by decide)]) rfl rfl rfl (ty_gs_fr (fun k k0 k1 => hR k (by omega) (by omega) (by omega) (by omega) (by omega))) hD,
            ⟨ty_Hb_c (i := i) (l := l) (by rw [hR _ (by decide) (by decide) (by decide) (by decide) (by decide)]) rfl (by rw [hR _ (by decide) (by decide) (by decide) (by decide) (by decide)]) (hR _ (by decide) (by decide) (by decide) (by decide) (by decide)) (by omega) (fun x hx => hA x (by omega) (by omega) (by omega)) hb, ?_, ?_,
            ty_Hg_c (fun k hk => (hR _ (by omega) (by omega) (by omega) (by omega) (by omega))) b4.2.2 (fun x hx => hA x (by omega) (by omega) (by omega)) hg, ty_Ho_c (hR _ (by decide) (by decide) (by decide) (by decide) (by decide)) b4.2.2 (fun x hx => hA x (by omega) (by omega) (by omega)) ho, ty_Hh_c (hR _ (by decide) (by decide) (by decide) (by decide) (by decide)) b7.2.2 (fun x hx => hA x (by omega) (by omega) (by omega)) hh,
            ty_Hl_c (hR _ (by decide) (by decide) (by decide) (by decide) (by decide)) (hR _ (by decide) (by decide) (by decide) (by decide) (by decide)) (hR _ (by decide) (by decide) (by decide) (by decide) (by decide)) b8.2.2 (by rw [hA 4 (by omega) (by omega) (by omega)]; omega) (by rw [hA3]; omega) (fun x hx => hA x (by omega) (by omega) (by omega)) hl,
            ty_Hn_c (hR _ (by decide) (by decide) (by decide) (by decide) (by decide)) (hR _ (by decide) (by decide) (by decide) (by decide) (by decide)) (hR _ (by decide) (by decide) (by decide) (by decide) (by decide)) (hR _ (by decide) (by decide) (by decide) (by decide) (by decide)) (hR _ (by decide) (by decide) (by decide) (by decide) (by decide)) (fun x hx => hA x (by omega) (by omega) (by omega)) hnn⟩,
            ty_H_same 27 125 (i := i) (l := l) (fun k k0 k1 => (hR _ (by omega) (by omega) (by omega) (by omega) (by omega))) (hR _ (by decide) (by decide) (by decide) (by decide) (by decide)) (by rw [hR _ (by decide) (by decide) (by decide) (by decide) (by decide)]) rfl (by omega) h27,
            ty_T_c (by rw [hR _ (by decide) (by decide) (by decide) (by decide) (by decide)]) (by rw [hR _ (by decide) (by decide) (by decide) (by decide) (by decide)]) (by rw [hR _ (by decide) (by decide) (by decide) (by decide) (by decide)]) (by rw [hR _ (by decide) (by decide) (by decide) (by decide) (by decide)]) (by rw [hR _ (by decide) (by decide) (by decide) (by decide) (by decide)]) (by rw [hR _ (by decide) (by decide) (by decide) (by decide) (by decide)]) (by rw [hR _ (by decide) (by decide) (by decide) (by decide) (by decide)]) (hR _ (by decide) (by decide) (by decide) (by decide) (by decide)) (hR _ (by decide) (by decide) (by decide) (by decide) (by decide)) hT,
            ty_Y_c (i := i) (by omega) (by omega) (hA 5 (by omega) (by omega) (by omega)) (by rw [hR _ (by decide) (by decide) (by decide) (by decide) (by decide)]) (fun k k0 k1 => (hR _ (by omega) (by omega) (by omega) (by omega) (by omega))) (fun k k0 k1 => (hR _ (by omega) (by omega) (by omega) (by omega) (by omega))) (fun m m0 m1 => Or.inr ⟨by rw [hR _ (by decide) (by decide) (by decide) (by decide) (by decide)], h4 3 (by omega), h4 4 (by omega), h4 8 (by omega)⟩) (by rw [hR _ (by decide) (by decide) (by decide) (by decide) (by decide)]) (hR _ (by decide) (by decide) (by decide) (by decide) (by decide)) hY⟩
          · unfold ty_Hs at hs ⊢
            simp only [Nat.add_zero] at hs ⊢
            rw [h4 3 (by omega), h4 4 (by omega), h4 6 (by omega), h4 7 (by omega), h4 8 (by omega), h4 9 (by omega), h45, hR 5 (by decide) (by decide) (by decide) (by decide) (by decide), hA 1 (by omega) (by omega) (by omega), hA 2 (by omega) (by omega) (by omega), hA 4 (by omega) (by omega) (by omega), hA 5 (by omega) (by omega) (by omega), hA 6 (by omega) (by omega) (by omega), hA 7 (by omega) (by omega) (by omega), hA 8 (by omega) (by omega) (by omega), hA3]
            exact ⟨hs.1, hs.2.1, ⟨rfl, by omega, by omega⟩, hs.2.2.2⟩
          · intro x x0 x1
            rw [hA3] at x1
            simp only [Nat.add_zero]
            rw [h14, h15]
            by_cases hx : x = i 124 3
            · have v1 : (px_up (px_up (px_up i1 124 (100 + 2 * i 124 3) a) 124 (101 + 2 * i 124 3) b) 124 3 (i 124 3 + 1)) 124 (100 + 2 * i 124 3) = a := by rw [ty_up_j (by omega), ty_up_j (by omega), ty_up_eq]
              have v2 : (px_up (px_up (px_up i1 124 (100 + 2 * i 124 3) a) 124 (101 + 2 * i 124 3) b) 124 3 (i 124 3 + 1)) 124 (101 + 2 * i 124 3) = b := by rw [ty_up_j (by omega), ty_up_eq]
              rw [if_pos hx, if_pos hx, hx, v1, v2]
              exact ⟨⟨rfl, hin.1, hin.2⟩, ⟨rfl, hin2.1, hin2.2⟩⟩
            · rw [if_neg hx, if_neg hx, hA _ (by omega) (by omega) (by omega), hA _ (by omega) (by omega) (by omega)]
              exact hp x x0 (by omega)
        · rw [hi1]; rfl
        · rw [ty_up_row (by decide), ty_up_row (by decide), ty_up_row (by decide), hi1]; rfl
      · have hm := b150_16 (L := L) (t := t) hr (d + 38 + 1 + 1) i l a b 1 (fun _ h => absurd (show i 124 3 = 8 by omega) h) (fun _ h => absurd (show i 124 3 = 8 by omega) h)
        rw [if_neg (by omega), if_pos (by omega)] at hm
        refine ⟨-1, i, l, i, l, ?_, ?_, hc', rfl, rfl⟩
        · rw [e4, b4_0 hr, q30 hr, Option.bind_some, px_psh_some, b4_7 hr, px_bi_T hin, if_neg (by omega), q30 hr, Option.bind_some, px_psh_some, b4_16 hr, px_bi_T hin2, if_neg (by omega), e45, if_neg h7]
        · rw [e150, b150_0 hr, q141 hr, Option.bind_some, px_psh_some, b150_7 hr, px_bi_T hin, if_neg (by omega), q141 hr, Option.bind_some, px_psh_some, px_bi_T hin2]
          exact hm
    · have hm := b150_16 (L := L) (t := t) hr (d + 38 + 1 + 1) i l a b 0 (fun h => absurd rfl h) (fun h => absurd rfl h)
      rw [if_pos rfl] at hm
      refine ⟨-1, i, l, i, l, ?_, ?_, hc', rfl, rfl⟩
      · rw [e4, b4_0 hr, q30 hr, Option.bind_some, px_psh_some, b4_7 hr, px_bi_T hin, if_neg (by omega), q30 hr, Option.bind_some, px_psh_some, b4_16 hr, px_bi_F hin2, if_pos rfl]
      · rw [e150, b150_0 hr, q141 hr, Option.bind_some, px_psh_some, b150_7 hr, px_bi_T hin, if_neg (by omega), q141 hr, Option.bind_some, px_psh_some, px_bi_F hin2]
        exact hm
  · refine ⟨-1, i, l, i, l, ?_, ?_, hc', rfl, rfl⟩
    · rw [e4, b4_0 hr, q30 hr, Option.bind_some, px_psh_some, b4_7 hr, px_bi_F hin, if_pos rfl]
    · rw [e150, b150_0 hr, q141 hr, Option.bind_some, px_psh_some, b150_7 hr, px_bi_F hin, if_pos rfl]
