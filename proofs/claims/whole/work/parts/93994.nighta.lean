/-! The reference's night: a minute's soaking (203, 171). -/
section TNS
variable {L t : Nat} {r : MR}
theorem tn_203_n (hr : px_hr r) (d : Nat) (l : MI) (x1 x2 x3 x4 x5 lv G : Int) (R Hf nose : Int → Int) (hG : 0 ≤ G ∧ G ≤ 10) (hl : 0 ≤ lv ∧ lv ≤ 999) (hR : ∀ g, 0 ≤ g → g < G → ¬ R g = -2 → (-1 ≤ R g ∧ R g < 8) ∧ 0 ≤ Hf (R g) ∧ Hf (R g) ≤ 99) (hN : ∀ g, 0 ≤ g → g < G → 0 ≤ nose g ∧ nose g ≤ 30) : ∀ (n : Nat) (i : MI) (g : Int) (v8 : PV), px_nl v8 → i 124 4 = G → i 142 = R → (∀ p : Int, -1 ≤ p → p < 8 → (if p = -1 then 0 else i 124 (100 + 2 * p)) = Hf p) → (∀ g, 0 ≤ g → g < G → i 124 (121 + 14 * g) = nose g) → (∀ x, g ≤ x → x < G → (0 ≤ i 124 (129 + 14 * x) ∧ i 124 (129 + 14 * x) ≤ 2000) ∧ 0 ≤ i 124 (130 + 14 * x) ∧ i 124 (130 + 14 * x) ≤ 2000) → 0 ≤ g → g + n = G →
    ∃ (i1 : MI) (v8' : PV), px_nl v8' ∧ px_X (d + 1) 203 (171, [vR 123, vI x1, vI x2, vI x3, vI x4, vI x5, vI lv, vI g, v8], []) (px_sh L, i, l, r, t) = px_X (d + 1) 203 (171, [vR 123, vI x1, vI x2, vI x3, vI x4, vI x5, vI lv, vI G, v8'], []) (px_sh L, i1, l, r, t) ∧ ty_ch [124] i i1 ∧
      (∀ x, 0 ≤ x → x < 10 → i1 124 (129 + 14 * x) = i 124 (129 + 14 * x) + (if g ≤ x ∧ x < G ∧ ¬ R x = -2 ∧ Hf (R x) < lv then 1 else 0)) ∧
      (∀ x, 0 ≤ x → x < 10 → i1 124 (130 + 14 * x) = i 124 (130 + 14 * x) + (if g ≤ x ∧ x < G ∧ ¬ R x = -2 ∧ Hf (R x) + nose x < lv then 1 else 0)) ∧
      ∀ y : Int, (∀ x : Int, 0 ≤ x → x < 10 → y ≠ 129 + 14 * x ∧ y ≠ 130 + 14 * x) → i1 124 y = i 124 y
  | 0, i, g, v8, hn8, h4, hRR, hH, hno, hb, hg, hn => by
    have e : g = G := by omega
    rw [e]
    exact ⟨i, v8, hn8, rfl, ty_ch_rf, fun x x0 x1 => by rw [if_neg (by omega), Int.add_zero], fun x x0 x1 => by rw [if_neg (by omega), Int.add_zero], fun _ _ => rfl⟩
  | n + 1, i, g, v8, hn8, h4, hRR, hH, hno, hb, hg, hn => by
    have wg : px_w32 (g + 1) = g + 1 := ty_w (by omega)
    have wa : px_w32 (14 * g) = 14 * g := ty_w (by omega)
    have wb : px_w32 (120 + 14 * g) = 120 + 14 * g := ty_w (by omega)
    have wc : px_w32 (120 + 14 * g + 9) = 129 + 14 * g := by rw [ty_w (by omega)]; omega
    have we : px_w32 (120 + 14 * g + 10) = 130 + 14 * g := by rw [ty_w (by omega)]; omega
    have hbg := hb g (Int.le_refl g) (by omega)
    have hNg := hN g hg (by omega)
    have e171 := b203_171 (L := L) (t := t) hr d i l x1 x2 x3 x4 x5 lv g hn8
    rw [wa, wb, wc, h4, hRR, wg] at e171
    have e171 := e171 (by intros; omega) (by intros; omega) (by intros; omega)
    rw [if_neg (show ¬ G ≤ g by omega)] at e171
    by_cases c2 : R g = -2
    · rw [if_pos c2] at e171
      obtain ⟨i1, v8', k8, r1, c1, p1, p2, p3⟩ := tn_203_n hr d l x1 x2 x3 x4 x5 lv G R Hf nose hG hl hR hN n i (g + 1) v8 hn8 h4 hRR hH hno (fun x x0 x1 => hb x (by omega) x1) (by omega) (by omega)
      refine ⟨i1, v8', k8, by rw [e171, r1], c1, fun x x0 x1 => ?_, fun x x0 x1 => ?_, p3⟩
      · rw [p1 x x0 x1]
        by_cases ex : x = g
        · rw [ex, if_neg (fun h => by omega), if_neg (fun h => h.2.2.1 c2)]
        · by_cases c : g + 1 ≤ x ∧ x < G ∧ ¬ R x = -2 ∧ Hf (R x) < lv
          · rw [if_pos c, if_pos ⟨by omega, c.2⟩]
          · rw [if_neg c, if_neg (fun h => c ⟨by omega, h.2⟩)]
      · rw [p2 x x0 x1]
        by_cases ex : x = g
        · rw [ex, if_neg (fun h => by omega), if_neg (fun h => h.2.2.1 c2)]
        · by_cases c : g + 1 ≤ x ∧ x < G ∧ ¬ R x = -2 ∧ Hf (R x) + nose x < lv
          · rw [if_pos c, if_pos ⟨by omega, c.2⟩]
          · rw [if_neg c, if_neg (fun h => c ⟨by omega, h.2⟩)]
    · rw [if_neg c2] at e171
      have hRg := hR g hg (by omega) c2
      obtain ⟨u, hu⟩ : ∃ u : Int, u = if Hf (R g) < lv then 1 else 0 := ⟨_, rfl⟩
      obtain ⟨v, hv⟩ : ∃ v : Int, v = if Hf (R g) + nose g < lv then 1 else 0 := ⟨_, rfl⟩
      have ub : 0 ≤ u ∧ u ≤ 1 := by
        rw [hu]
        split <;> omega
      have vb : 0 ≤ v ∧ v ≤ 1 := by
        rw [hv]
        split <;> omega
      obtain ⟨ia, hia⟩ : ∃ ia : MI, ia = px_up i 124 (129 + 14 * g) (i 124 (129 + 14 * g) + u) := ⟨_, rfl⟩
      obtain ⟨ib, hib⟩ : ∃ ib : MI, ib = px_up ia 124 (130 + 14 * g) (i 124 (130 + 14 * g) + v) := ⟨_, rfl⟩
      have ra : ∀ k, k ≠ 124 → ia k = i k := fun k hk => by rw [hia, ty_up_row hk]
      have rb : ∀ k, k ≠ 124 → ib k = i k := fun k hk => by rw [hib, ty_up_row hk, ra k hk]
      have va : ∀ y, y ≠ 129 + 14 * g → ia 124 y = i 124 y := fun y hy => by rw [hia, ty_up_j hy]
      have vbb : ∀ y, y ≠ 129 + 14 * g → y ≠ 130 + 14 * g → ib 124 y = i 124 y := fun y h1 h2 => by rw [hib, ty_up_j h2, va y h1]
      have hgo : px_X (d + 1) 203 (171, [vR 123, vI x1, vI x2, vI x3, vI x4, vI x5, vI lv, vI g, v8], []) (px_sh L, i, l, r, t) = px_X (d + 1) 203 (171, [vR 123, vI x1, vI x2, vI x3, vI x4, vI x5, vI lv, vI (g + 1), vI (120 + 14 * g)], []) (px_sh L, ib, l, r, t) := by
        rw [e171, q194 hr _ _ _ _ hRg.1, hH _ hRg.1.1 hRg.1.2, Option.bind_some, px_psh_some]
        have e228 : px_X (d + 1) 203 (228, [vR 123, vI x1, vI x2, vI x3, vI x4, vI x5, vI lv, vI g, vI (120 + 14 * g)], [vI (Hf (R g)), vI lv, vI (i 124 (129 + 14 * g)), vI (129 + 14 * g), vR 124]) (px_sh L, i, l, r, t) = px_X (d + 1) 203 (236, [vR 123, vI x1, vI x2, vI x3, vI x4, vI x5, vI lv, vI g, vI (120 + 14 * g)], [vI u, vI (i 124 (129 + 14 * g)), vI (129 + 14 * g), vR 124]) (px_sh L, i, l, r, t) := by
          rw [b203_228 hr, hu]
          by_cases c : lv ≤ Hf (R g)
          · rw [if_pos c, if_neg (by omega)]
          · rw [if_neg c, if_pos (by omega)]
        have e236 := b203_236 (L := L) (t := t) hr d i l x1 x2 x3 x4 x5 lv g (120 + 14 * g) u (i 124 (129 + 14 * g)) (129 + 14 * g)
        rw [we, show px_w32 (i 124 (129 + 14 * g) + u) = i 124 (129 + 14 * g) + u from ty_w (by omega), ← hia, hRR, va (130 + 14 * g) (by omega)] at e236
        have e236 := e236 (by omega) (by omega) (by omega)
        have hH2 : (if R g = -1 then 0 else ia 124 (100 + 2 * R g)) = Hf (R g) := by
          rw [va _ (by omega)]
          exact hH _ hRg.1.1 hRg.1.2
        rw [q194 hr _ _ _ _ hRg.1, hH2, Option.bind_some, px_psh_some, b203_262 hr, q146 hr _ _ _ _ _ (by omega) (by omega), show 120 + 14 * g + 1 = 121 + 14 * g by omega, va (121 + 14 * g) (by omega), hno g hg (by omega), Option.bind_some, px_psh_some] at e236
        have e269 := b203_269 (L := L) (t := t) hr (d + 1) ia l x1 x2 x3 x4 x5 lv g (120 + 14 * g) (nose g) (Hf (R g)) lv (i 124 (130 + 14 * g)) (130 + 14 * g) (by intros; omega) (by intros; omega)
        rw [wg, show px_w32 (Hf (R g) + nose g) = Hf (R g) + nose g from ty_w (by omega), show px_w32 (i 124 (130 + 14 * g) + 0) = i 124 (130 + 14 * g) + 0 from ty_w (by omega), show px_w32 (i 124 (130 + 14 * g) + 1) = i 124 (130 + 14 * g) + 1 from ty_w (by omega)] at e269
        rw [e228, e236, e269, hib, hv]
        by_cases c : lv ≤ Hf (R g) + nose g
        · rw [if_pos c, if_neg (by omega)]
        · rw [if_neg c, if_pos (by omega)]
      obtain ⟨i1, v8', k8, r1, c1, p1, p2, p3⟩ := tn_203_n hr d l x1 x2 x3 x4 x5 lv G R Hf nose hG hl hR hN n ib (g + 1) (vI (120 + 14 * g)) (px_nl_I _) (by rw [vbb 4 (by omega) (by omega)]; exact h4) (by rw [rb 142 (by decide)]; exact hRR) (fun p p0 p1 => by rw [vbb _ (by omega) (by omega)]; exact hH p p0 p1) (fun y y0 y1 => by rw [vbb _ (by omega) (by omega)]; exact hno y y0 y1) (fun x x0 x1 => by rw [vbb _ (by omega) (by omega), vbb _ (by omega) (by omega)]; exact hb x (by omega) x1) (by omega) (by omega)
      refine ⟨i1, v8', k8, by rw [hgo, r1], ty_ch_tr (fun k hk => rb k (fun e => hk (by rw [e]; decide))) c1 (S := [124]) rfl rfl, fun x x0 x1 => ?_, fun x x0 x1 => ?_, fun y hy => ?_⟩
      · rw [p1 x x0 x1]
        by_cases ex : x = g
        · rw [ex, if_neg (show ¬ (g + 1 ≤ g ∧ g < G ∧ ¬ R g = -2 ∧ Hf (R g) < lv) from fun h => by omega), Int.add_zero, hib, ty_up_j (by omega), hia, ty_up_eq, hu]
          by_cases c : Hf (R g) < lv
          · rw [if_pos c, if_pos ⟨by omega, by omega, c2, c⟩]
          · rw [if_neg c, if_neg (fun h => c h.2.2.2)]
        · rw [vbb _ (by omega) (by omega)]
          by_cases c : g + 1 ≤ x ∧ x < G ∧ ¬ R x = -2 ∧ Hf (R x) < lv
          · rw [if_pos c, if_pos ⟨by omega, c.2⟩]
          · rw [if_neg c, if_neg (fun h => c ⟨by omega, h.2⟩)]
      · rw [p2 x x0 x1]
        by_cases ex : x = g
        · rw [ex, if_neg (show ¬ (g + 1 ≤ g ∧ g < G ∧ ¬ R g = -2 ∧ Hf (R g) + nose g < lv) from fun h => by omega), Int.add_zero, hib, ty_up_eq, hv]
          by_cases c : Hf (R g) + nose g < lv
          · rw [if_pos c, if_pos ⟨by omega, by omega, c2, c⟩]
          · rw [if_neg c, if_neg (fun h => c h.2.2.2)]
        · rw [vbb _ (by omega) (by omega)]
          by_cases c : g + 1 ≤ x ∧ x < G ∧ ¬ R x = -2 ∧ Hf (R x) + nose x < lv
          · rw [if_pos c, if_pos ⟨by omega, c.2⟩]
          · rw [if_neg c, if_neg (fun h => c ⟨by omega, h.2⟩)]
      · have := hy g hg (by omega)
        rw [p3 y hy, vbb y this.1 this.2]
end TNS
