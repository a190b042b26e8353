/-! horse, perch. -/
theorem ok_horse (a : Int) : ty_ok ty_CR 22 225 [vI a] := by
  intro L t r hr n d i l hn hc
  have hc' := ty_CR_mono hc
  obtain ⟨hD, h0, h27, hT, hY⟩ := hc
  have hdim := ty_D_2 hD
  obtain ⟨hb, hs, hp, hg, ho, hh, hl, hnn⟩ := h0
  have b3 := hs.2.2.1
  have b4 := hs.2.2.2.1
  have b5 := hs.2.2.2.2.1
  have b6 := hs.2.2.2.2.2.1
  have b7 := hs.2.2.2.2.2.2.1
  have b8 := hs.2.2.2.2.2.2.2
  have e49 : i 4 9 = i 124 7 := b7.1
  have e48 : i 4 8 = i 124 6 := b6.1
  show ∃ (v : Int) (i1 l1 i2 l2 : MI), px_C (d + 39 + 1) 22 [vR 3, vI a] _ = _ ∧ px_C (d + 39 + 1) 225 [vR 123, vI a] _ = _ ∧ _
  by_cases hin : 1 ≤ a ∧ a ≤ 999
  · by_cases h7 : i 124 7 < 7
    · have w1 : px_w32 (i 124 7 + 1) = i 124 7 + 1 := ty_w (by omega)
      have w2 : px_w32 (270 + i 124 7) = 270 + i 124 7 := ty_w (by omega)
      have hi1 : ∃ i1 : MI, i1 = px_up (px_up i 16 (i 124 7) a) 4 9 (i 124 7 + 1) := ⟨_, rfl⟩
      obtain ⟨i1, hi1⟩ := hi1
      have e7 : i1 124 7 = i 124 7 := by rw [hi1]; rfl
      have hm := b225_8 (L := L) (t := t) hr (d + 39 + 1) i1 l a (px_bi (1 ≤ a ∧ a ≤ 999))
      rw [e7, w2, px_bi_T hin, ty_up_j (by omega), e7, w1] at hm
      have hm := hm (fun _ _ => by omega)
      rw [if_neg (by omega), if_neg (by omega)] at hm
      refine ⟨i 124 7 + 1, i1, l, px_up (px_up i1 124 (270 + i 124 7) a) 124 7 (i 124 7 + 1), l, ?_, ?_, ?_, ?_, ?_⟩
      · rw [e22, b22_0 hr, q30 hr, Option.bind_some, px_psh_some, b22_8 hr, px_bi_T hin, if_neg (by omega), e49, if_pos h7, q34i hr _ _ _ (px_s16 L) (Nat.le_of_ble_eq_true rfl) _ _ (show 0 ≤ i 124 7 ∧ i 124 7 < ((7 : Nat) : Int) by omega), Option.bind_some, px_psh_none, b22_43 hr, show px_up i 16 (i 124 7) a 4 9 = i 4 9 from rfl, e49, w1, hi1]
      · rw [e225, b225_0 hr, q141 hr, Option.bind_some, px_psh_some, px_bi_T hin]
        exact hm
      · have hA : ∀ x : Int, x ≠ 7 → x ≠ 270 + i 124 7 → (px_up (px_up i1 124 (270 + i 124 7) a) 124 7 (i 124 7 + 1)) 124 x = i 124 x := fun x hx hx2 => by
          rw [ty_up_j hx, ty_up_j hx2, hi1]
          rfl
        have hR : ∀ k, k ≠ 4 → k ≠ 16 → k ≠ 124 → (px_up (px_up i1 124 (270 + i 124 7) a) 124 7 (i 124 7 + 1)) k = i k := fun k k0 k1 k2 => by
          rw [ty_up_row k2, ty_up_row k2, hi1, ty_up_row k0, ty_up_row k1]
        have h4 : ∀ x : Int, x ≠ 9 → (px_up (px_up i1 124 (270 + i 124 7) a) 124 7 (i 124 7 + 1)) 4 x = i 4 x := fun x hx => by
          rw [ty_up_k (by decide), ty_up_k (by decide), hi1, ty_up_j hx]
          rfl
        have h49 : (px_up (px_up i1 124 (270 + i 124 7) a) 124 7 (i 124 7 + 1)) 4 9 = i 124 7 + 1 := by
          rw [ty_up_k (by decide), ty_up_k (by decide), hi1, ty_up_eq]
        have hA7 : (px_up (px_up i1 124 (270 + i 124 7) a) 124 7 (i 124 7 + 1)) 124 7 = i 124 7 + 1 := ty_up_eq
        have h16 : ∀ x : Int, (px_up (px_up i1 124 (270 + i 124 7) a) 124 7 (i 124 7 + 1)) 16 x = if x = i 124 7 then a else i 16 x := fun x => by
          rw [ty_up_k (by decide), ty_up_k (by decide), hi1, ty_up_k (by decide)]
          by_cases hx : x = i 124 7
          · rw [if_pos hx, hx, ty_up_eq]
          · rw [if_neg hx, ty_up_j hx]
        refine ⟨ty_D_c (i := i) (l := l) (by rw [hR _ (by decide) (by decide) (by decide)]) (by rw [hR _ (by decide) (by decide) (by decide)]) (by rw [hR _ (by decide) (by decide) (by decide)]) (by rw [hR _ (by decide) (by decide) (by decide)]) (by rw [hR _ (by decide) (by decide) (by decide)]) (by rw [hR _ (by decide) (by decide) (by decide)]) rfl rfl rfl (ty_gs_fr (fun k k0 k1 => hR k (by omega) (by omega) (by omega))) hD,
          ⟨ty_Hb_c (i := i) (l := l) (by rw [hR _ (by decide) (by decide) (by decide)]) rfl (by rw [hR _ (by decide) (by decide) (by decide)]) (hR _ (by decide) (by decide) (by decide)) (by omega) (fun x hx => hA x (by omega) (by omega)) hb, ?_, ty_Hp_c (hR _ (by decide) (by decide) (by decide)) (hR _ (by decide) (by decide) (by decide)) b3.2.2 (fun x hx => hA x (by omega) (by omega)) hp,
          ty_Hg_c (fun k hk => hR _ (by omega) (by omega) (by omega)) b4.2.2 (fun x hx => hA x (by omega) (by omega)) hg, ty_Ho_c (hR _ (by decide) (by decide) (by decide)) b4.2.2 (fun x hx => hA x (by omega) (by omega)) ho, ?_,
          ty_Hl_c (hR _ (by decide) (by decide) (by decide)) (hR _ (by decide) (by decide) (by decide)) (hR _ (by decide) (by decide) (by decide)) b8.2.2 (by rw [hA 4 (by omega) (by omega)]; omega) (by rw [hA 3 (by omega) (by omega)]; omega) (fun x hx => hA x (by omega) (by omega)) hl,
          ty_Hn_c (hR _ (by decide) (by decide) (by decide)) (hR _ (by decide) (by decide) (by decide)) (hR _ (by decide) (by decide) (by decide)) (hR _ (by decide) (by decide) (by decide)) (hR _ (by decide) (by decide) (by decide)) (fun x hx => hA x (by omega) (by omega)) hnn⟩,
          ty_H_same 27 125 (i := i) (l := l) (fun k k0 k1 => hR _ (by omega) (by omega) (by omega)) (hR _ (by decide) (by decide) (by decide)) (by rw [hR _ (by decide) (by decide) (by decide)]) rfl (by omega) h27,
          ty_T_c (by rw [hR _ (by decide) (by decide) (by decide)]) (by rw [hR _ (by decide) (by decide) (by decide)]) (by rw [hR _ (by decide) (by decide) (by decide)]) (by rw [hR _ (by decide) (by decide) (by decide)]) (by rw [hR _ (by decide) (by decide) (by decide)]) (by rw [hR _ (by decide) (by decide) (by decide)]) (by rw [hR _ (by decide) (by decide) (by decide)]) (hR _ (by decide) (by decide) (by decide)) (hR _ (by decide) (by decide) (by decide)) hT,
          ty_Y_c (i := i) (by omega) (by omega) (hA 5 (by omega) (by omega)) (by rw [hR _ (by decide) (by decide) (by decide)]) (fun k k0 k1 => hR _ (by omega) (by omega) (by omega)) (fun k k0 k1 => hR _ (by omega) (by omega) (by omega)) (fun m m0 m1 => Or.inr ⟨by rw [hR _ (by decide) (by decide) (by decide)], h4 3 (by omega), h4 4 (by omega), h4 8 (by omega)⟩) (by rw [hR _ (by decide) (by decide) (by decide)]) (hR _ (by decide) (by decide) (by decide)) hY⟩
        · unfold ty_Hs at hs ⊢
          simp only [Nat.add_zero] at hs ⊢
          rw [h4 3 (by omega), h4 4 (by omega), h4 5 (by omega), h4 6 (by omega), h4 7 (by omega), h4 8 (by omega), h49, hR 5 (by decide) (by decide) (by decide), hA 1 (by omega) (by omega), hA 2 (by omega) (by omega), hA 3 (by omega) (by omega), hA 4 (by omega) (by omega), hA 5 (by omega) (by omega), hA 6 (by omega) (by omega), hA 8 (by omega) (by omega), hA7]
          exact ⟨hs.1, hs.2.1, hs.2.2.1, hs.2.2.2.1, hs.2.2.2.2.1, hs.2.2.2.2.2.1, ⟨rfl, by omega, by omega⟩, hs.2.2.2.2.2.2.2⟩
        · intro x x0 x1
          rw [hA7] at x1
          simp only [Nat.add_zero]
          rw [h16]
          by_cases hx : x = i 124 7
          · rw [if_pos hx, hx, ty_up_j (by omega), ty_up_eq]
            exact ⟨rfl, hin.1, hin.2⟩
          · rw [if_neg hx, hA _ (by omega) (by omega)]
            exact hh x x0 (by omega)
      · rw [hi1]; rfl
      · rw [ty_up_row (by decide), ty_up_row (by decide), hi1]; rfl
    · have hm := b225_8 (L := L) (t := t) hr (d + 39 + 1) i l a (px_bi (1 ≤ a ∧ a ≤ 999)) (fun _ h => absurd (show i 124 7 = 7 by omega) h)
      rw [px_bi_T hin, if_neg (by omega), if_pos (by omega)] at hm
      refine ⟨-1, i, l, i, l, ?_, ?_, hc', rfl, rfl⟩
      · rw [e22, b22_0 hr, q30 hr, Option.bind_some, px_psh_some, b22_8 hr, px_bi_T hin, if_neg (by omega), e49, if_neg h7]
      · rw [e225, b225_0 hr, q141 hr, Option.bind_some, px_psh_some, px_bi_T hin]
        exact hm
  · have hm := b225_8 (L := L) (t := t) hr (d + 39 + 1) i l a (px_bi (1 ≤ a ∧ a ≤ 999)) (fun h => absurd (px_bi_F hin) h)
    rw [px_bi_F hin, if_pos rfl] at hm
    refine ⟨-1, i, l, i, l, ?_, ?_, hc', rfl, rfl⟩
    · rw [e22, b22_0 hr, q30 hr, Option.bind_some, px_psh_some, b22_8 hr, px_bi_F hin, if_pos rfl]
    · rw [e225, b225_0 hr, q141 hr, Option.bind_some, px_psh_some, px_bi_F hin]
      exact hm
