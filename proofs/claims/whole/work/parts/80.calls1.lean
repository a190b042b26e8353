/-! Calls that set little: the coupling kept. -/
theorem ty_H_same (o : Nat) (K : Nat) {i i' l l' : MI} (hr : ∀ k, 4 + o ≤ k → k < 31 + o → i' k = i k) (hK : i' K = i K) (h2 : i' 123 2 = i 123 2) (hl : l' (19 + o) = l (19 + o)) (h36 : i 123 2 ≤ 36) (h : ty_H o i l (i K)) : ty_H o i' l' (i' K) := by
  have hA : ∀ x, i' K x = i K x := fun x => by rw [hK]
  obtain ⟨h1, hs, hp, hg, ho, hh, hli, hn⟩ := h
  have b3 := hs.2.2.1
  have b4 := hs.2.2.2.1
  have b7 := hs.2.2.2.2.2.2.1
  have b8 := hs.2.2.2.2.2.2.2
  exact ⟨ty_Hb_c (by rw [hr (19 + o) (by omega) (by omega)]) (by rw [hl]) h2 (hr (20 + o) (by omega) (by omega)) h36 (fun x _ => hA x) h1,
    ty_Hs_c (hr (4 + o) (by omega) (by omega)) (by rw [hr (5 + o) (by omega) (by omega)]) (fun x _ => hA x) hs,
    ty_Hp_c (hr _ (by omega) (by omega)) (hr _ (by omega) (by omega)) b3.2.2 (fun x _ => hA x) hp,
    ty_Hg_c (fun k hk => hr _ (by omega) (by omega)) b4.2.2 (fun x _ => hA x) hg,
    ty_Ho_c (hr _ (by omega) (by omega)) b4.2.2 (fun x _ => hA x) ho,
    ty_Hh_c (hr _ (by omega) (by omega)) b7.2.2 (fun x _ => hA x) hh,
    ty_Hl_c (hr _ (by omega) (by omega)) (hr _ (by omega) (by omega)) (hr _ (by omega) (by omega)) b8.2.2 (by rw [hA]; omega) (by rw [hA]; omega) (fun x _ => hA x) hli,
    ty_Hn_c (hr _ (by omega) (by omega)) (hr _ (by omega) (by omega)) (hr _ (by omega) (by omega)) (hr _ (by omega) (by omega)) (hr _ (by omega) (by omega)) (fun x _ => hA x) hn⟩
theorem ty_Y_c {n : Nat} {i i' : MI} (h8 : i 4 8 ≤ 5) (h5 : i 124 5 ≤ 6) (ha : i' 124 5 = i 124 5) (hb : i' 125 5 = i 125 5) (ht : ∀ k, 73 ≤ k → k < 103 → i' k = i k) (hm : ∀ k, 127 ≤ k → k < 132 → i' k = i k)
    (hl : ∀ m : Int, 0 ≤ m → m < 1440 → i' 70 m = -1 ∨ (i' 70 m = i 70 m ∧ i' 4 3 = i 4 3 ∧ i' 4 4 = i 4 4 ∧ i' 4 8 = i 4 8)) (hs : i' 103 7 = i 103 7) (hst : i' 108 = i 108) (h : ty_Y n i) : ty_Y (n + 1) i' := by
  obtain ⟨y1, y2, y3, y4, y5⟩ := h
  refine ⟨fun q hq => ?_, by rw [ha, hb]; exact y2, fun m m0 m1 => ?_, ?_, ?_⟩
  · rw [ha] at hq
    exact ty_tx_c (fun k k0 k1 => ht k (by omega) (by omega)) (hm _ (by omega) (by omega)) (hm _ (by omega) (by omega)) (hm _ (by omega) (by omega)) (hm _ (by omega) (by omega)) (hm _ (by omega) (by omega)) (y1 q hq)
  · rcases hl m m0 m1 with h | ⟨h, h3, h4, h7⟩
    · exact Or.inl h
    · rw [h, ty_lev_c h3 h4 h7 (fun k k0 k1 => ht k (by omega) (by omega))]
      exact y3 m m0 m1
  · rw [hs]
    omega
  · rw [hs, hst]
    exact y5
theorem ty_CR_mono {n : Nat} {i l : MI} (h : ty_CR n i l) : ty_CR (n + 1) i l := by
  obtain ⟨h1, h2, h3, h4, y1, y2, y3, y4, y5⟩ := h
  exact ⟨h1, h2, h3, h4, y1, y2, y3, by omega, y5⟩
theorem ok_inn (a : Int) : ty_ok ty_CR 2 148 [vI a] := by
  intro L t r hr n d i l hn hc
  have hc' := ty_CR_mono hc
  obtain ⟨hD, h0, h27, hT, hY⟩ := hc
  have hdim := ty_D_2 hD
  have e19 : i 19 2 = i 123 2 := hD.2.2.2.2.2.1
  by_cases hin : 0 ≤ a ∧ a < i 123 2
  · refine ⟨1, px_up i 19 8 a, l, px_up (px_up i 19 8 a) 124 0 a, l, ?_, ?_, ?_, rfl, rfl⟩
    · rw [e2, b2_0 hr, q37 hr, Option.bind_some, px_psh_some, b2_11 hr, e19, px_bi_T hin, if_neg (by omega)]
    · rw [e148, b148_0 hr, q143 hr _ (px_up i 19 8 a) _ _ (show 0 ≤ i 123 2 ∧ i 123 2 ≤ 36 by omega), Option.bind_some, px_psh_some, b148_5 hr, show px_up i 19 8 a 123 2 = i 123 2 from rfl, px_bi_T hin, if_neg (by omega)]
    · obtain ⟨hb, hs, hp, hg, ho, hh, hl, hnn⟩ := h0
      have b3 := hs.2.2.1
      have b4 := hs.2.2.2.1
      have b5 := hs.2.2.2.2.1
      have b6 := hs.2.2.2.2.2.1
      have b7 := hs.2.2.2.2.2.2.1
      have b8 := hs.2.2.2.2.2.2.2
      have hA : ∀ x : Int, 1 ≤ x → (px_up (px_up i 19 8 a) 124 0 a) 124 x = i 124 x := fun x hx => by
        rw [ty_up_j (by omega)]
        rfl
      refine ⟨ty_D_c (i := i) (l := l) rfl rfl rfl rfl rfl rfl rfl rfl rfl (ty_gs_fr (fun k k0 k1 => by rw [ty_up_row (by omega), ty_up_row (by omega)])) hD, ⟨?_, ty_Hs_c rfl rfl (fun x hx => hA x (by omega)) hs, ty_Hp_c rfl rfl b3.2.2 (fun x hx => hA x (by omega)) hp,
        ty_Hg_c (fun k hk => by rw [ty_up_row (by omega), ty_up_row (by omega)]) b4.2.2 (fun x hx => hA x (by omega)) hg, ty_Ho_c rfl b4.2.2 (fun x hx => hA x (by omega)) ho, ty_Hh_c rfl b7.2.2 (fun x hx => hA x (by omega)) hh,
        ty_Hl_c rfl rfl rfl b8.2.2 (by rw [hA 4 (by omega)]; omega) (by rw [hA 3 (by omega)]; omega) (fun x hx => hA x (by omega)) hl, ty_Hn_c rfl rfl rfl rfl rfl (fun x hx => hA x (by omega)) hnn⟩,
        ty_H_same 27 125 (i := i) (l := l) (fun k k0 k1 => by rw [ty_up_row (by omega), ty_up_row (by omega)]) rfl rfl rfl (by omega) h27, ty_T_c rfl rfl rfl rfl rfl rfl rfl rfl rfl hT,
        ty_Y_c (i := i) (show i 4 8 ≤ 5 by have : i (4 + 0) 8 = i 124 6 := b6.1; have : i 4 8 = i 124 6 := this; omega) (by omega) (hA 5 (by omega)) rfl (fun k k0 k1 => by rw [ty_up_row (by omega), ty_up_row (by omega)]) (fun k k0 k1 => by rw [ty_up_row (by omega), ty_up_row (by omega)]) (fun m m0 m1 => Or.inr ⟨rfl, rfl, rfl, rfl⟩) rfl rfl hY⟩
      refine ⟨⟨rfl, hin.1, hin.2⟩, hb.2.1, fun c c0 c1 => ?_⟩
      rw [hA _ (by omega), hA _ (by omega)]
      exact hb.2.2 c c0 c1
  · refine ⟨0, i, l, i, l, ?_, ?_, hc', rfl, rfl⟩
    · rw [e2, b2_0 hr, q37 hr, Option.bind_some, px_psh_some, b2_11 hr, e19, px_bi_F hin, if_pos rfl]
    · rw [e148, b148_0 hr, q143 hr _ _ _ _ (by omega), Option.bind_some, px_psh_some, b148_5 hr, px_bi_F hin, if_pos rfl]
