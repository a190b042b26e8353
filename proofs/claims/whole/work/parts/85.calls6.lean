/-! here. -/
theorem ty_Ho_c2 {o : Nat} {i i' : MI} {A A' : Int → Int} (h1 : i' (17 + o) = i (17 + o)) (hA : ∀ x, (x = 4 ∨ (120 ≤ x ∧ (x - 120) % 14 = 0)) → A' x = A x) (h : ty_Ho o i A) : ty_Ho o i' A' := by
  unfold ty_Ho
  rw [h1, hA 4 (by omega)]
  refine ⟨h.1, fun x y x0 xy y1 => ?_⟩
  have hx := h.1 x x0 (by omega)
  have hy := h.1 y (by omega) y1
  rw [hA (120 + 14 * i (17 + o) x) (by omega), hA (120 + 14 * i (17 + o) y) (by omega)]
  exact h.2 x y x0 xy y1
theorem ok_here (a c b : Int) (hb01 : b = 0 ∨ b = 1) : ty_ok ty_CR 6 152 [vI a, vI c, vI b] := by
  intro L t r hr n d i l hn hc
  have hc' := ty_CR_mono hc
  obtain ⟨hD, h0, h27, hT, hY⟩ := hc
  have hdim := ty_D_2 hD
  obtain ⟨hb, hs, hp, hg, ho, hh, hl, hnn⟩ := h0
  have b3 := hs.2.2.1
  have b4 := hs.2.2.2.1
  have b5 := hs.2.2.2.2.1
  have b6 := hs.2.2.2.2.2.1
  have b7 := hs.2.2.2.2.2.2.1
  have b8 := hs.2.2.2.2.2.2.2
  have e46 : i 4 6 = i 124 4 := b4.1
  have e48 : i 4 8 = i 124 6 := b6.1
  show ∃ (v : Int) (i1 l1 i2 l2 : MI), px_C (d + 38 + 1 + 1) 6 [vR 3, vI a, vI c, vI b] _ = _ ∧ px_C (d + 38 + 1 + 1) 152 [vR 123, vI a, vI c, vI b] _ = _ ∧ _
  by_cases ha : 0 ≤ a ∧ a < i 124 4
  · by_cases hcc : 0 ≤ c ∧ c ≤ 99
    · have w1 : px_w32 (14 * a) = 14 * a := ty_w (by omega)
      have w2 : px_w32 (120 + 14 * a) = 120 + 14 * a := ty_w (by omega)
      have w3 : px_w32 (120 + 14 * a + 7) = 127 + 14 * a := by rw [ty_w (by omega)]; omega
      have w4 : px_w32 (120 + 14 * a + 8) = 128 + 14 * a := by rw [ty_w (by omega)]; omega
      have hi1 : ∃ i1 : MI, i1 = px_up (px_up i (21 + a.toNat) 7 c) (21 + a.toNat) 8 b := ⟨_, rfl⟩
      obtain ⟨i1, hi1⟩ := hi1
      have e4' : i1 124 4 = i 124 4 := by rw [hi1, ty_up_k (by omega), ty_up_k (by omega)]
      have hm := b152_15 (L := L) (t := t) hr (d + 38 + 1 + 1) i1 l a c b 1
      rw [w1, w2, w3, w4] at hm
      have hm := hm (fun _ => by omega) (fun _ _ => by omega) (fun _ _ => by omega)
      rw [if_neg (by omega)] at hm
      have hm2 : px_X (d + 38 + 1 + 1) 152 (15, [vR 123, vI a, vI c, vI b], [vI 1]) (px_sh L, i1, l, r, t) = some (some (vI 1), (px_sh L, (px_up (px_up i1 124 (127 + 14 * a) c) 124 (128 + 14 * a) b), l, r, t)) := by
        rw [hm]
        rcases hb01 with h | h
        · rw [if_pos h, h]
        · rw [if_neg (by omega), h]
      refine ⟨1, i1, l, (px_up (px_up i1 124 (127 + 14 * a) c) 124 (128 + 14 * a) b), l, ?_, ?_, ?_, ?_, ?_⟩
      · rw [e6, b6_0 hr, q52R hr _ _ _ _ (by omega), Option.bind_some, px_psh_some, b6_8_g hr _ _ _ _ _ _ (px_gs_mk21 (by omega)), q30 hr, Option.bind_some, px_psh_some, px_bi_T hcc, b6_22 hr _ _ _ _ _ _ (px_gs_mk21 (by omega)) _ (fun _ => hb01), if_neg (by omega), ← hi1]
      · rw [e152, b152_0 hr, q144 hr _ _ _ _ (by omega), e4', Option.bind_some, px_psh_some, b152_5 hr, px_bi_T ha, if_neg (by omega), q141 hr, Option.bind_some, px_psh_some, px_bi_T hcc]
        exact hm2
      · have hA : ∀ x : Int, x ≠ 127 + 14 * a → x ≠ 128 + 14 * a → (px_up (px_up i1 124 (127 + 14 * a) c) 124 (128 + 14 * a) b) 124 x = i 124 x := fun x hx hx2 => by
          rw [ty_up_j hx2, ty_up_j hx, hi1, ty_up_k (by omega), ty_up_k (by omega)]
        have hR : ∀ k, k ≠ 21 + a.toNat → k ≠ 124 → (px_up (px_up i1 124 (127 + 14 * a) c) 124 (128 + 14 * a) b) k = i k := fun k k0 k1 => by
          rw [ty_up_row k1, ty_up_row k1, hi1, ty_up_row k0, ty_up_row k0]
        refine ⟨ty_D_c (i := i) (l := l) (by rw [hR _ (by omega) (by omega)]) (by rw [hR _ (by omega) (by omega)]) (by rw [hR _ (by omega) (by omega)]) (by rw [hR _ (by omega) (by omega)]) (by rw [hR _ (by omega) (by omega)]) (by rw [hR _ (by omega) (by omega)]) rfl rfl rfl (fun k hk => by
            have hk2 : k ≠ 124 := by
              unfold px_gs at hk
              omega
            by_cases hka : k = 21 + a.toNat
            · rw [hka, ty_up_k (by omega), ty_up_k (by omega), ty_up_k (by omega), ty_up_k (by omega), hi1, ty_up_j (by omega), ty_up_j (by omega), ty_up_eq]
              exact ⟨Or.inl rfl, Or.inr hb01⟩
            · rw [hR k hka hk2]
              exact ⟨Or.inl rfl, Or.inl rfl⟩) hD,
          ⟨ty_Hb_c (i := i) (l := l) (by rw [hR _ (by omega) (by omega)]) rfl (by rw [hR _ (by omega) (by omega)]) (hR _ (by omega) (by omega)) (by omega) (fun x hx => hA x (by omega) (by omega)) hb, ty_Hs_c (hR _ (by omega) (by omega)) (by rw [hR _ (by omega) (by omega)]) (fun x hx => hA x (by omega) (by omega)) hs, ty_Hp_c (hR _ (by omega) (by omega)) (hR _ (by omega) (by omega)) b3.2.2 (fun x hx => hA x (by omega) (by omega)) hp, ?_,
          ty_Ho_c2 (hR _ (by omega) (by omega)) (fun x hx => hA x (by omega) (by omega)) ho, ty_Hh_c (hR _ (by omega) (by omega)) b7.2.2 (fun x hx => hA x (by omega) (by omega)) hh,
          ty_Hl_c (hR _ (by omega) (by omega)) (hR _ (by omega) (by omega)) (hR _ (by omega) (by omega)) b8.2.2 (by rw [hA 4 (by omega) (by omega)]; omega) (by rw [hA 3 (by omega) (by omega)]; omega) (fun x hx => hA x (by omega) (by omega)) hl,
          ty_Hn_c (hR _ (by omega) (by omega)) (hR _ (by omega) (by omega)) (hR _ (by omega) (by omega)) (hR _ (by omega) (by omega)) (hR _ (by omega) (by omega)) (fun x hx => hA x (by omega) (by omega)) hnn⟩,
          ty_H_same 27 125 (i := i) (l := l) (fun k k0 k1 => (hR _ (by omega) (by omega))) (hR _ (by omega) (by omega)) (by rw [hR _ (by omega) (by omega)]) rfl (by omega) h27,
          ty_T_c (by rw [hR _ (by omega) (by omega)]) (by rw [hR _ (by omega) (by omega)]) (by rw [hR _ (by omega) (by omega)]) (by rw [hR _ (by omega) (by omega)]) (by rw [hR _ (by omega) (by omega)]) (by rw [hR _ (by omega) (by omega)]) (by rw [hR _ (by omega) (by omega)]) (hR _ (by omega) (by omega)) (hR _ (by omega) (by omega)) hT,
          ty_Y_c (i := i) (by omega) (by omega) (hA 5 (by omega) (by omega)) (by rw [hR _ (by omega) (by omega)]) (fun k k0 k1 => (hR _ (by omega) (by omega))) (fun k k0 k1 => (hR _ (by omega) (by omega))) (fun m m0 m1 => Or.inr ⟨by rw [hR _ (by omega) (by omega)], by rw [hR _ (by omega) (by omega)], by rw [hR _ (by omega) (by omega)], by rw [hR _ (by omega) (by omega)]⟩) (by rw [hR _ (by omega) (by omega)]) (hR _ (by omega) (by omega)) hY⟩
        intro g g0 g1 x x0 x1
        rw [hA 4 (by omega) (by omega)] at g1
        have hgx := hg g g0 g1 x x0 x1
        simp only [Nat.add_zero] at hgx ⊢
        by_cases hga : g = a
        · subst hga
          by_cases hx7 : x = 7
          · subst hx7
            have v1 : (px_up (px_up i1 124 (127 + 14 * g) c) 124 (128 + 14 * g) b) (21 + g.toNat) 7 = c := by
              rw [ty_up_k (by omega), ty_up_k (by omega), hi1, ty_up_j (by omega), ty_up_eq]
            have v2 : (px_up (px_up i1 124 (127 + 14 * g) c) 124 (128 + 14 * g) b) 124 (120 + 14 * g + 7) = c := by
              rw [ty_up_j (by omega), show (120 + 14 * g + 7 : Int) = 127 + 14 * g by omega, ty_up_eq]
            rw [v1, v2]
            refine ⟨rfl, ?_⟩
            unfold ty_col
            omega
          · by_cases hx8 : x = 8
            · subst hx8
              have v1 : (px_up (px_up i1 124 (127 + 14 * g) c) 124 (128 + 14 * g) b) (21 + g.toNat) 8 = b := by
                rw [ty_up_k (by omega), ty_up_k (by omega), hi1, ty_up_eq]
              have v2 : (px_up (px_up i1 124 (127 + 14 * g) c) 124 (128 + 14 * g) b) 124 (120 + 14 * g + 8) = b := by
                rw [show (120 + 14 * g + 8 : Int) = 128 + 14 * g by omega, ty_up_eq]
              rw [v1, v2]
              refine ⟨rfl, ?_⟩
              unfold ty_col
              omega
            · rw [hA _ (by omega) (by omega), ty_up_k (by omega), ty_up_k (by omega), hi1, ty_up_j hx8, ty_up_j hx7]
              exact hgx
        · rw [hA _ (by omega) (by omega), hR _ (by omega) (by omega)]
          exact hgx
      · rw [hi1, ty_up_row (by omega), ty_up_row (by omega)]
      · rw [ty_up_row (by omega), ty_up_row (by omega), hi1, ty_up_row (by omega), ty_up_row (by omega)]
    · have hm := b152_15 (L := L) (t := t) hr (d + 38 + 1 + 1) i l a c b 0 (fun h => absurd rfl h) (fun h => absurd rfl h) (fun h => absurd rfl h)
      rw [if_pos rfl] at hm
      refine ⟨0, i, l, i, l, ?_, ?_, hc', rfl, rfl⟩
      · rw [e6, b6_0 hr, q52R hr _ _ _ _ (by omega), Option.bind_some, px_psh_some, b6_8_g hr _ _ _ _ _ _ (px_gs_mk21 (by omega)), q30 hr, Option.bind_some, px_psh_some, px_bi_F hcc, b6_22 hr _ _ _ _ _ _ (px_gs_mk21 (by omega)) _ (fun _ => hb01), if_pos rfl]
      · rw [e152, b152_0 hr, q144 hr _ _ _ _ (by omega), Option.bind_some, px_psh_some, b152_5 hr, px_bi_T ha, if_neg (by omega), q141 hr, Option.bind_some, px_psh_some, px_bi_F hcc]
        exact hm
  · refine ⟨0, i, l, i, l, ?_, ?_, hc', rfl, rfl⟩
    · rw [e6, b6_0 hr, q52N hr _ _ _ _ (by omega), Option.bind_some, px_psh_some, b6_8_N hr]
    · rw [e152, b152_0 hr, q144 hr _ _ _ _ (by omega), Option.bind_some, px_psh_some, b152_5 hr, px_bi_F ha, if_pos rfl]
