/-! line. -/
theorem q24_no {L t : Nat} {r : MR} (hr : px_hr r) (d : Nat) (i l : MI) (a b c : Int) : px_X (d + 1) 24 (39, [vR 3, vI a, vI b, vI c, vJ], []) (px_sh L, i, l, r, t) = some (some (vI (-1)), (px_sh L, i, l, r, t)) := by
  rw [b24_39 hr, b24_40 hr, if_pos rfl]
theorem ok_line (a b c : Int) : ty_ok ty_CR 24 228 [vI a, vI b, vI c] := by
  intro L t r hr n d i l hn hc
  have hc' := ty_CR_mono hc
  obtain ⟨hD, h0, h27, hT, hY⟩ := hc
  have hdim := ty_D_2 hD
  obtain ⟨hb, hs, hp, hg, ho, hh, hl, hnn⟩ := h0
  have b3 := hs.2.2.1
  have b4 := hs.2.2.2.1
  have b5 := hs.2.2.2.2.1
  have b6 := hs.2.2.2.2.2.1
  have b7 := hs.2.2.2.2.2.2.1
  have b8 := hs.2.2.2.2.2.2.2
  have e45 : i 4 5 = i 124 3 := b3.1
  have f46 : i 4 6 = i 124 4 := b4.1
  have e48 : i 4 8 = i 124 6 := b6.1
  have e50 : i 5 0 = i 124 8 := b8.1
  show ∃ (v : Int) (i1 l1 i2 l2 : MI), px_C (d + 38 + 1 + 1) 24 [vR 3, vI a, vI b, vI c] _ = _ ∧ px_C (d + 38 + 1 + 1) 228 [vR 123, vI a, vI b, vI c] _ = _ ∧ _
  by_cases ha : 0 ≤ a ∧ a ≤ 1439
  · by_cases hbb : 0 ≤ b ∧ b < i 124 4
    · have wp : px_w32 (i 124 3 - 1) = i 124 3 - 1 := ty_w (by omega)
      by_cases hcc : -1 ≤ c ∧ c ≤ i 124 3 - 1
      · by_cases h7 : i 124 8 < 12
        · have w1 : px_w32 (i 124 8 + 1) = i 124 8 + 1 := ty_w (by omega)
          have w2 : px_w32 (3 * i 124 8) = 3 * i 124 8 := ty_w (by omega)
          have w3 : px_w32 (280 + 3 * i 124 8) = 280 + 3 * i 124 8 := ty_w (by omega)
          have w4 : px_w32 (280 + 3 * i 124 8 + 1) = 281 + 3 * i 124 8 := by rw [ty_w (by omega)]; omega
          have w5 : px_w32 (280 + 3 * i 124 8 + 2) = 282 + 3 * i 124 8 := by rw [ty_w (by omega)]; omega
          have hi1 : ∃ i1 : MI, i1 = px_up (px_up (px_up (px_up i 6 (i 124 8) a) 7 (i 124 8) b) 8 (i 124 8) c) 5 0 (i 124 8 + 1) := ⟨_, rfl⟩
          obtain ⟨i1, hi1⟩ := hi1
          have e7 : i1 124 8 = i 124 8 := by rw [hi1]; rfl
          have e3' : i1 124 3 = i 124 3 := by rw [hi1]; rfl
          have e4' : i1 124 4 = i 124 4 := by rw [hi1]; rfl
          have u3 : (px_up (px_up (px_up i1 124 (280 + 3 * i 124 8) a) 124 (281 + 3 * i 124 8) b) 124 (282 + 3 * i 124 8) c) 124 8 = i 124 8 := by rw [ty_up_j (by omega), ty_up_j (by omega), ty_up_j (by omega), e7]
          have hm := b228_28 (L := L) (t := t) hr (d + 38 + 1 + 1) i1 l a b c 1
          rw [e7, w2, w3, w4, w5, u3, w1] at hm
          have hm := hm (fun _ _ => by omega) (fun _ _ => by omega) (fun _ _ => by omega)
          rw [if_neg (by omega), if_neg (by omega)] at hm
          refine ⟨i 124 8 + 1, i1, l, (px_up (px_up (px_up (px_up i1 124 (280 + 3 * i 124 8) a) 124 (281 + 3 * i 124 8) b) 124 (282 + 3 * i 124 8) c) 124 8 (i 124 8 + 1)), l, ?_, ?_, ?_, ?_, ?_⟩
          · rw [e24, b24_0 hr, q31 hr, Option.bind_some, px_psh_some, b24_4 hr, px_bi_T ha, if_neg (by omega), q52R hr _ _ _ _ (by omega), Option.bind_some, px_psh_some, b24_15_g hr _ _ _ _ _ _ (px_gs_mk21 (by omega)), e45, wp, q30 hr, Option.bind_some, px_psh_some, b24_32 hr, px_bi_T hcc, if_neg (by omega), b24_40 hr, if_neg (by omega), e50, if_pos h7,
              e46, b46_0 hr, e50, q34i hr _ _ _ (px_s6 L) (Nat.le_of_ble_eq_true rfl) _ _ (show 0 ≤ i 124 8 ∧ i 124 8 < ((12 : Nat) : Int) by omega), Option.bind_some, px_psh_none, b46_12 hr, show px_up i 6 (i 124 8) a 5 0 = i 5 0 from rfl, e50,
              q34i hr _ _ _ (px_s7 L) (Nat.le_of_ble_eq_true rfl) _ _ (show 0 ≤ i 124 8 ∧ i 124 8 < ((12 : Nat) : Int) by omega), Option.bind_some, px_psh_none, b46_24 hr, show px_up (px_up i 6 (i 124 8) a) 7 (i 124 8) b 5 0 = i 5 0 from rfl, e50,
              q34i hr _ _ _ (px_s8 L) (Nat.le_of_ble_eq_true rfl) _ _ (show 0 ≤ i 124 8 ∧ i 124 8 < ((12 : Nat) : Int) by omega), Option.bind_some, px_psh_none, b46_36 hr, show px_up (px_up (px_up i 6 (i 124 8) a) 7 (i 124 8) b) 8 (i 124 8) c 5 0 = i 5 0 from rfl, e50, w1, ← hi1, Option.bind_some, px_psh_none, b24_77 hr, show i1 5 0 = i 124 8 + 1 by rw [hi1]; rfl]
          · rw [e228, b228_0 hr, q145 hr, Option.bind_some, px_psh_some, b228_4 hr, px_bi_T ha, if_neg (by omega), q144 hr _ _ _ _ (by omega), e4', Option.bind_some, px_psh_some, b228_12 hr, px_bi_T hbb, if_neg (by omega), e3', wp, q141 hr, Option.bind_some, px_psh_some, px_bi_T hcc]
            exact hm
          · have hA : ∀ x : Int, x ≠ 8 → x ≠ 280 + 3 * i 124 8 → x ≠ 281 + 3 * i 124 8 → x ≠ 282 + 3 * i 124 8 → (px_up (px_up (px_up (px_up i1 124 (280 + 3 * i 124 8) a) 124 (281 + 3 * i 124 8) b) 124 (282 + 3 * i 124 8) c) 124 8 (i 124 8 + 1)) 124 x = i 124 x := fun x hx hx2 hx3 hx4 => by
              rw [ty_up_j hx, ty_up_j hx4, ty_up_j hx3, ty_up_j hx2, hi1]
              rfl
            have hR : ∀ k, k ≠ 5 → k ≠ 6 → k ≠ 7 → k ≠ 8 → k ≠ 124 → k ≠ 124 → (px_up (px_up (px_up (px_up i1 124 (280 + 3 * i 124 8) a) 124 (281 + 3 * i 124 8) b) 124 (282 + 3 * i 124 8) c) 124 8 (i 124 8 + 1)) k = i k := fun k k0 k1 k2 k3 k4 _ => by
              rw [ty_up_row k4, ty_up_row k4, ty_up_row k4, ty_up_row k4, hi1, ty_up_row k0, ty_up_row k3, ty_up_row k2, ty_up_row k1]
            have h50 : (px_up (px_up (px_up (px_up i1 124 (280 + 3 * i 124 8) a) 124 (281 + 3 * i 124 8) b) 124 (282 + 3 * i 124 8) c) 124 8 (i 124 8 + 1)) 5 0 = i 124 8 + 1 := by
              rw [ty_up_k (by decide), ty_up_k (by decide), ty_up_k (by decide), ty_up_k (by decide), hi1, ty_up_eq]
            have hA8 : (px_up (px_up (px_up (px_up i1 124 (280 + 3 * i 124 8) a) 124 (281 + 3 * i 124 8) b) 124 (282 + 3 * i 124 8) c) 124 8 (i 124 8 + 1)) 124 8 = i 124 8 + 1 := ty_up_eq
            have h6 : ∀ x : Int, (px_up (px_up (px_up (px_up i1 124 (280 + 3 * i 124 8) a) 124 (281 + 3 * i 124 8) b) 124 (282 + 3 * i 124 8) c) 124 8 (i 124 8 + 1)) 6 x = if x = i 124 8 then a else i 6 x := fun x => by
              rw [ty_up_k (by decide), ty_up_k (by decide), ty_up_k (by decide), ty_up_k (by decide), hi1, ty_up_k (by decide), ty_up_k (by decide), ty_up_k (by decide)]
              by_cases hx : x = i 124 8
              · rw [if_pos hx, hx, ty_up_eq]
              · rw [if_neg hx, ty_up_j hx]
            have h7' : ∀ x : Int, (px_up (px_up (px_up (px_up i1 124 (280 + 3 * i 124 8) a) 124 (281 + 3 * i 124 8) b) 124 (282 + 3 * i 124 8) c) 124 8 (i 124 8 + 1)) 7 x = if x = i 124 8 then b else i 7 x := fun x => by
              rw [ty_up_k (by decide), ty_up_k (by decide), ty_up_k (by decide), ty_up_k (by decide), hi1, ty_up_k (by decide), ty_up_k (by decide)]
              by_cases hx : x = i 124 8
              · rw [if_pos hx, hx, ty_up_eq]
              · rw [if_neg hx, ty_up_j hx, ty_up_k (by decide)]
            have h8' : ∀ x : Int, (px_up (px_up (px_up (px_up i1 124 (280 + 3 * i 124 8) a) 124 (281 + 3 * i 124 8) b) 124 (282 + 3 * i 124 8) c) 124 8 (i 124 8 + 1)) 8 x = if x = i 124 8 then c else i 8 x := fun x => by
              rw [ty_up_k (by decide), ty_up_k (by decide), ty_up_k (by decide), ty_up_k (by decide), hi1, ty_up_k (by decide)]
              by_cases hx : x = i 124 8
              · rw [if_pos hx, hx, ty_up_eq]
              · rw [if_neg hx, ty_up_j hx, ty_up_k (by decide), ty_up_k (by decide)]
            refine ⟨ty_D_c (i := i) (l := l) (by rw [hR _ (by decide) (by decide) (by decide) (by decide) (by decide) (by decide)]) (by rw [hR _ (by decide) (by decide) (by decide) (by decide) (by decide) (by decide)]) (by rw [hR _ (by decide) (by decide) (by decide) (by decide) (by decide) (by decide)]) (by rw [hR _ (by decide) (by decide) (by decide) (by decide) (by decide) (by decide)]) (by rw [hR _ (by decide) (by decide) (by decide) (by decide) (by decide) (by decide)]) (by rw [hR _ (by decide) (by decide) (by decide) (by decide) (by decide) (by decide)]) rfl rfl rfl (ty_gs_fr (fun k k0 k1 => hR k (by omega) (by omega) (by omega) (by omega) (by omega) (by omega))) hD,
              ⟨ty_Hb_c (i := i) (l := l) (by rw [hR _ (by decide) (by decide) (by decide) (by decide) (by decide) (by decide)]) rfl (by rw [hR _ (by decide) (by decide) (by decide) (by decide) (by decide) (by decide)]) (hR _ (by decide) (by decide) (by decide) (by decide) (by decide) (by decide)) (by omega) (fun x hx => hA x (by omega) (by omega) (by omega) (by omega)) hb, ?_, ty_Hp_c (hR _ (by decide) (by decide) (by decide) (by decide) (by decide) (by decide)) (hR _ (by decide) (by decide) (by decide) (by decide) (by decide) (by decide)) b3.2.2 (fun x hx => hA x (by omega) (by omega) (by omega) (by omega)) hp,
              ty_Hg_c (fun k hk => (hR _ (by omega) (by omega) (by omega) (by omega) (by omega) (by omega))) b4.2.2 (fun x hx => hA x (by omega) (by omega) (by omega) (by omega)) hg, ty_Ho_c (hR _ (by decide) (by decide) (by decide) (by decide) (by decide) (by decide)) b4.2.2 (fun x hx => hA x (by omega) (by omega) (by omega) (by omega)) ho, ty_Hh_c (hR _ (by decide) (by decide) (by decide) (by decide) (by decide) (by decide)) b7.2.2 (fun x hx => hA x (by omega) (by omega) (by omega) (by omega)) hh, ?_,
              ty_Hn_c (hR _ (by decide) (by decide) (by decide) (by decide) (by decide) (by decide)) (hR _ (by decide) (by decide) (by decide) (by decide) (by decide) (by decide)) (hR _ (by decide) (by decide) (by decide) (by decide) (by decide) (by decide)) (hR _ (by decide) (by decide) (by decide) (by decide) (by decide) (by decide)) (hR _ (by decide) (by decide) (by decide) (by decide) (by decide) (by decide)) (fun x hx => hA x (by omega) (by omega) (by omega) (by omega)) hnn⟩,
              ty_H_same 27 125 (i := i) (l := l) (fun k k0 k1 => (hR _ (by omega) (by omega) (by omega) (by omega) (by omega) (by omega))) (hR _ (by decide) (by decide) (by decide) (by decide) (by decide) (by decide)) (by rw [hR _ (by decide) (by decide) (by decide) (by decide) (by decide) (by decide)]) rfl (by omega) h27,
              ty_T_c (by rw [hR _ (by decide) (by decide) (by decide) (by decide) (by decide) (by decide)]) (by rw [hR _ (by decide) (by decide) (by decide) (by decide) (by decide) (by decide)]) (by rw [hR _ (by decide) (by decide) (by decide) (by decide) (by decide) (by decide)]) (by rw [hR _ (by decide) (by decide) (by decide) (by decide) (by decide) (by decide)]) (by rw [hR _ (by decide) (by decide) (by decide) (by decide) (by decide) (by decide)]) (by rw [hR _ (by decide) (by decide) (by decide) (by decide) (by decide) (by decide)]) (by rw [hR _ (by decide) (by decide) (by decide) (by decide) (by decide) (by decide)]) (hR _ (by decide) (by decide) (by decide) (by decide) (by decide) (by decide)) (hR _ (by decide) (by decide) (by decide) (by decide) (by decide) (by decide)) hT,
              ty_Y_c (i := i) (by omega) (by omega) (hA 5 (by omega) (by omega) (by omega) (by omega)) (by rw [hR _ (by decide) (by decide) (by decide) (by decide) (by decide) (by decide)]) (fun k k0 k1 => (hR _ (by omega) (by omega) (by omega) (by omega) (by omega) (by omega))) (fun k k0 k1 => (hR _ (by omega) (by omega) (by omega) (by omega) (by omega) (by omega))) (fun m m0 m1 => Or.inr ⟨by rw [hR _ (by decide) (by decide) (by decide) (by decide) (by decide) (by decide)], by rw [hR _ (by decide) (by decide) (by decide) (by decide) (by decide) (by decide)], by rw [hR _ (by decide) (by decide) (by decide) (by decide) (by decide) (by decide)], by rw [hR _ (by decide) (by decide) (by decide) (by decide) (by decide) (by decide)]⟩) (by rw [hR _ (by decide) (by decide) (by decide) (by decide) (by decide) (by decide)]) (hR _ (by decide) (by decide) (by decide) (by decide) (by decide) (by decide)) hY⟩
            · unfold ty_Hs at hs ⊢
              simp only [Nat.add_zero] at hs ⊢
              rw [h50, hR 4 (by decide) (by decide) (by decide) (by decide) (by decide) (by decide), hA 1 (by omega) (by omega) (by omega) (by omega), hA 2 (by omega) (by omega) (by omega) (by omega), hA 3 (by omega) (by omega) (by omega) (by omega), hA 4 (by omega) (by omega) (by omega) (by omega), hA 5 (by omega) (by omega) (by omega) (by omega), hA 6 (by omega) (by omega) (by omega) (by omega), hA 7 (by omega) (by omega) (by omega) (by omega), hA8]
              exact ⟨hs.1, hs.2.1, hs.2.2.1, hs.2.2.2.1, hs.2.2.2.2.1, hs.2.2.2.2.2.1, hs.2.2.2.2.2.2.1, ⟨rfl, by omega, by omega⟩⟩
            · intro x x0 x1
              rw [hA8] at x1
              simp only [Nat.add_zero]
              rw [h6, h7', h8', hA 3 (by omega) (by omega) (by omega) (by omega), hA 4 (by omega) (by omega) (by omega) (by omega)]
              by_cases hx : x = i 124 8
              · have v1 : (px_up (px_up (px_up (px_up i1 124 (280 + 3 * i 124 8) a) 124 (281 + 3 * i 124 8) b) 124 (282 + 3 * i 124 8) c) 124 8 (i 124 8 + 1)) 124 (280 + 3 * i 124 8) = a := by rw [ty_up_j (by omega), ty_up_j (by omega), ty_up_j (by omega), ty_up_eq]
                have v2 : (px_up (px_up (px_up (px_up i1 124 (280 + 3 * i 124 8) a) 124 (281 + 3 * i 124 8) b) 124 (282 + 3 * i 124 8) c) 124 8 (i 124 8 + 1)) 124 (281 + 3 * i 124 8) = b := by rw [ty_up_j (by omega), ty_up_j (by omega), ty_up_eq]
                have v3 : (px_up (px_up (px_up (px_up i1 124 (280 + 3 * i 124 8) a) 124 (281 + 3 * i 124 8) b) 124 (282 + 3 * i 124 8) c) 124 8 (i 124 8 + 1)) 124 (282 + 3 * i 124 8) = c := by rw [ty_up_j (by omega), ty_up_eq]
                rw [if_pos hx, if_pos hx, if_pos hx, hx, v1, v2, v3]
                exact ⟨⟨rfl, ha.1, ha.2⟩, ⟨rfl, hbb.1, hbb.2⟩, ⟨rfl, hcc.1, by omega⟩⟩
              · rw [if_neg hx, if_neg hx, if_neg hx, hA _ (by omega) (by omega) (by omega) (by omega), hA _ (by omega) (by omega) (by omega) (by omega), hA _ (by omega) (by omega) (by omega) (by omega)]
                exact hl x x0 (by omega)
          · rw [hi1]; rfl
          · rw [ty_up_row (by decide), ty_up_row (by decide), ty_up_row (by decide), ty_up_row (by decide), hi1]; rfl
        · have hm := b228_28 (L := L) (t := t) hr (d + 38 + 1 + 1) i l a b c 1 (fun _ h => absurd (show i 124 8 = 12 by omega) h) (fun _ h => absurd (show i 124 8 = 12 by omega) h) (fun _ h => absurd (show i 124 8 = 12 by omega) h)
          rw [if_neg (by omega), if_pos (by omega)] at hm
          refine ⟨-1, i, l, i, l, ?_, ?_, hc', rfl, rfl⟩
          · rw [e24, b24_0 hr, q31 hr, Option.bind_some, px_psh_some, b24_4 hr, px_bi_T ha, if_neg (by omega), q52R hr _ _ _ _ (by omega), Option.bind_some, px_psh_some, b24_15_g hr _ _ _ _ _ _ (px_gs_mk21 (by omega)), e45, wp, q30 hr, Option.bind_some, px_psh_some, b24_32 hr, px_bi_T hcc, if_neg (by omega), b24_40 hr, if_neg (by omega), e50, if_neg h7]
          · rw [e228, b228_0 hr, q145 hr, Option.bind_some, px_psh_some, b228_4 hr, px_bi_T ha, if_neg (by omega), q144 hr _ _ _ _ (by omega), Option.bind_some, px_psh_some, b228_12 hr, px_bi_T hbb, if_neg (by omega), wp, q141 hr, Option.bind_some, px_psh_some, px_bi_T hcc]
            exact hm
      · have hm := b228_28 (L := L) (t := t) hr (d + 38 + 1 + 1) i l a b c 0 (fun h => absurd rfl h) (fun h => absurd rfl h) (fun h => absurd rfl h)
        rw [if_pos rfl] at hm
        refine ⟨-1, i, l, i, l, ?_, ?_, hc', rfl, rfl⟩
        · rw [e24, b24_0 hr, q31 hr, Option.bind_some, px_psh_some, b24_4 hr, px_bi_T ha, if_neg (by omega), q52R hr _ _ _ _ (by omega), Option.bind_some, px_psh_some, b24_15_g hr _ _ _ _ _ _ (px_gs_mk21 (by omega)), e45, wp, q30 hr, Option.bind_some, px_psh_some, b24_32 hr, px_bi_F hcc, if_pos rfl, q24_no hr]
        · rw [e228, b228_0 hr, q145 hr, Option.bind_some, px_psh_some, b228_4 hr, px_bi_T ha, if_neg (by omega), q144 hr _ _ _ _ (by omega), Option.bind_some, px_psh_some, b228_12 hr, px_bi_T hbb, if_neg (by omega), wp, q141 hr, Option.bind_some, px_psh_some, px_bi_F hcc]
          exact hm
    · refine ⟨-1, i, l, i, l, ?_, ?_, hc', rfl, rfl⟩
      · rw [e24, b24_0 hr, q31 hr, Option.bind_some, px_psh_some, b24_4 hr, px_bi_T ha, if_neg (by omega), q52N hr _ _ _ _ (by omega), Option.bind_some, px_psh_some, b24_15_N hr, q24_no hr]
      · rw [e228, b228_0 hr, q145 hr, Option.bind_some, px_psh_some, b228_4 hr, px_bi_T ha, if_neg (by omega), q144 hr _ _ _ _ (by omega), Option.bind_some, px_psh_some, b228_12 hr, px_bi_F hbb, if_pos rfl]
  · refine ⟨-1, i, l, i, l, ?_, ?_, hc', rfl, rfl⟩
    · rw [e24, b24_0 hr, q31 hr, Option.bind_some, px_psh_some, b24_4 hr, px_bi_F ha, if_pos rfl, q24_no hr]
    · rw [e228, b228_0 hr, q145 hr, Option.bind_some, px_psh_some, b228_4 hr, px_bi_F ha, if_pos rfl]
