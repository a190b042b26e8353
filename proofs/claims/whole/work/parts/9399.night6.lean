/-! soak (129). -/
section TNO
variable {L t : Nat} {r : MR}
theorem tn_129_n (hr : px_hr r) (d : Nat) (l : MI) (m lv S G : Int) (PL H : Int → Int) (nose : Int → Int) (hS : 0 ≤ S ∧ S < 1024) (hG : 0 ≤ G ∧ G ≤ 10) (hl : 0 ≤ lv ∧ lv ≤ 999) (hH : ∀ g, 0 ≤ g → g < G → 0 ≤ H g ∧ H g ≤ 99) (hN : ∀ g, 0 ≤ g → g < G → 0 ≤ nose g ∧ nose g ≤ 30) : ∀ (n : Nat) (i : MI) (g : Int) (v5 v6 : PV), px_nl v5 → px_nl v6 → i 9 2 = S → i 105 = PL → i 4 6 = G → (∀ g, 0 ≤ g → g < G → ty_at (i 14) 8 (PL g) = H g) → (∀ g, 0 ≤ g → g < G → i (21 + g.toNat) 1 = nose g) → (∀ x, g ≤ x → x < 10 → 0 ≤ i 10 x ∧ i 10 x ≤ 2000 ∧ 0 ≤ i 11 x ∧ i 11 x ≤ 2000) → 0 ≤ g → g + n = G →
    ∃ i1 : MI, px_X (d + 1 + 1) 129 (12, [vR 103, vR 9, vI m, vI lv, vI g, v5, v6], []) (px_sh L, i, l, r, t) = some (none, (px_sh L, i1, l, r, t)) ∧ ty_ch [10, 11] i i1 ∧
      (∀ x, 0 ≤ x → x < 10 → i1 10 x = i 10 x + (if g ≤ x ∧ x < G ∧ ty_bit S x = true ∧ H x < lv then 1 else 0)) ∧
      ∀ x, 0 ≤ x → x < 10 → i1 11 x = i 11 x + (if g ≤ x ∧ x < G ∧ ty_bit S x = true ∧ H x + nose x < lv then 1 else 0)
  | 0, i, g, v5, v6, hn5, hn6, h2, hp, h4, hh, hno, hb, hg, hn => by
    exact ⟨i, by rw [b129_12 hr _ _ _ _ _ _ hn5 hn6, if_pos (by omega)], ty_ch_rf, fun x x0 x1 => by rw [if_neg (by omega), Int.add_zero], fun x x0 x1 => by rw [if_neg (by omega), Int.add_zero]⟩
  | n + 1, i, g, v5, v6, hn5, hn6, h2, hp, h4, hh, hno, hb, hg, hn => by
    have wg : px_w32 (g + 1) = g + 1 := ty_w (by omega)
    have hgs : px_gs (21 + g.toNat) := px_gs_mk21 (by omega)
    have hHg := hH g hg (by omega)
    have hNg := hN g hg (by omega)
    have hbg := hb g (Int.le_refl g) (by omega)
    have e67 : px_X (d + 1 + 1) 129 (12, [vR 103, vR 9, vI m, vI lv, vI g, v5, v6], []) (px_sh L, i, l, r, t) = px_X (d + 1 + 1) 129 (67, [vR 103, vR 9, vI m, vI lv, vI g, vR (21 + g.toNat), vI (H g)], [vI (px_bi (0 ≤ g ∧ g < 31 ∧ ty_bit S g = true))]) (px_sh L, i, l, r, t) := by
      rw [b129_12 hr _ _ _ _ _ _ hn5 hn6, if_neg (by omega), q52R hr _ _ _ _ (by omega), Option.bind_some, px_psh_some, b129_33_g hr _ _ _ _ _ _ hn5 hn6 hgs, q33i hr _ _ _ (px_s105 L) (Nat.le_of_ble_eq_true rfl) _ (by omega), Option.bind_some, px_psh_some, b129_48_iR45g hr _ _ _ _ _ _ hgs hn6, hp, q56 hr, hh g hg (by omega), Option.bind_some, px_psh_some, b129_51_i5g hr _ _ _ _ _ _ hgs hn6, h2, q32 hr _ _ _ _ _ hS.1 (by omega), Option.bind_some, px_psh_some]
    have w1 : px_w32 (i 10 g + 1) = i 10 g + 1 := ty_w (by omega)
    have w2 : px_w32 (i 11 g + 1) = i 11 g + 1 := ty_w (by omega)
    have w3 : px_w32 (H g + nose g) = H g + nose g := ty_w (by omega)
    have hgo : ∀ i2 : MI, ty_ch [10, 11] i i2 → (∀ x, i2 10 x = if x = g ∧ ty_bit S g = true ∧ H g < lv then i 10 g + 1 else i 10 x) → (∀ x, i2 11 x = if x = g ∧ ty_bit S g = true ∧ H g + nose g < lv then i 11 g + 1 else i 11 x) →
        px_X (d + 1 + 1) 129 (12, [vR 103, vR 9, vI m, vI lv, vI g, v5, v6], []) (px_sh L, i, l, r, t) = px_X (d + 1 + 1) 129 (12, [vR 103, vR 9, vI m, vI lv, vI (g + 1), vR (21 + g.toNat), vI (H g)], []) (px_sh L, i2, l, r, t) →
        ∃ i1 : MI, px_X (d + 1 + 1) 129 (12, [vR 103, vR 9, vI m, vI lv, vI g, v5, v6], []) (px_sh L, i, l, r, t) = some (none, (px_sh L, i1, l, r, t)) ∧ ty_ch [10, 11] i i1 ∧
      (∀ x, 0 ≤ x → x < 10 → i1 10 x = i 10 x + (if g ≤ x ∧ x < G ∧ ty_bit S x = true ∧ H x < lv then 1 else 0)) ∧
      ∀ x, 0 ≤ x → x < 10 → i1 11 x = i 11 x + (if g ≤ x ∧ x < G ∧ ty_bit S x = true ∧ H x + nose x < lv then 1 else 0) := fun i2 c2 v10 v11 hx => by
      obtain ⟨i1, r1, c1, p1, p2⟩ := tn_129_n hr d l m lv S G PL H nose hS hG hl hH hN n i2 (g + 1) (vR (21 + g.toNat)) (vI (H g)) (px_nl_R _) (px_nl_I _) (by rw [c2 9 (by decide)]; exact h2) (by rw [c2 105 (by decide)]; exact hp) (by rw [c2 4 (by decide)]; exact h4) (fun y y0 y1 => by rw [c2 14 (by decide)]; exact hh y y0 y1) (fun y y0 y1 => by
        rw [c2 (21 + y.toNat) (by simp only [List.mem_cons, List.not_mem_nil, or_false]; omega)]
        exact hno y y0 y1) (fun x x0 x1 => by
        rw [v10 x, v11 x, if_neg (fun h => by omega), if_neg (fun h => by omega)]
        exact hb x (by omega) x1) (by omega) (by omega)
      refine ⟨i1, hx.trans r1, ty_ch_tr c2 c1 rfl rfl, fun x x0 x1 => ?_, fun x x0 x1 => ?_⟩
      · rw [p1 x x0 x1, v10 x]
        by_cases ex : x = g
        · rw [ex, if_neg (show ¬ (g + 1 ≤ g ∧ g < G ∧ ty_bit S g = true ∧ H g < lv) from fun h => by omega), Int.add_zero]
          by_cases c : ty_bit S g = true ∧ H g < lv
          · rw [if_pos ⟨rfl, c⟩, if_pos ⟨by omega, by omega, c⟩]
          · rw [if_neg (fun h => c h.2), if_neg (fun h => c h.2.2), Int.add_zero]
        · rw [if_neg (fun h => ex h.1)]
          by_cases c : g + 1 ≤ x ∧ x < G ∧ ty_bit S x = true ∧ H x < lv
          · rw [if_pos c, if_pos ⟨by omega, c.2⟩]
          · rw [if_neg c, if_neg (fun h => c ⟨by omega, h.2⟩)]
      · rw [p2 x x0 x1, v11 x]
        by_cases ex : x = g
        · rw [ex, if_neg (show ¬ (g + 1 ≤ g ∧ g < G ∧ ty_bit S g = true ∧ H g + nose g < lv) from fun h => by omega), Int.add_zero]
          by_cases c : ty_bit S g = true ∧ H g + nose g < lv
          · rw [if_pos ⟨rfl, c⟩, if_pos ⟨by omega, by omega, c⟩]
          · rw [if_neg (fun h => c h.2), if_neg (fun h => c h.2.2), Int.add_zero]
        · rw [if_neg (fun h => ex h.1)]
          by_cases c : g + 1 ≤ x ∧ x < G ∧ ty_bit S x = true ∧ H x + nose x < lv
          · rw [if_pos c, if_pos ⟨by omega, c.2⟩]
          · rw [if_neg c, if_neg (fun h => c ⟨by omega, h.2⟩)]
    by_cases hbit : ty_bit S g = true
    · by_cases h1 : H g < lv
      · by_cases h3 : H g + nose g < lv
        · refine hgo (px_up (px_up i 10 g (i 10 g + 1)) 11 g (i 11 g + 1)) ?_ ?_ ?_ ?_
          · exact ty_ch_tr (ty_ch_up (S := [10, 11]) (by decide)) (ty_ch_up (S := [10, 11]) (by decide)) rfl rfl
          · intro x
            rw [ty_up_k (by decide)]
            by_cases ex : x = g
            · rw [ex, ty_up_eq, if_pos ⟨rfl, hbit, h1⟩]
            · rw [ty_up_j ex, if_neg (fun h => ex h.1)]
          · intro x
            by_cases ex : x = g
            · rw [ex, ty_up_eq, if_pos ⟨rfl, hbit, h3⟩]
            · rw [ty_up_j ex, if_neg (fun h => ex h.1), ty_up_row (by decide)]
          · rw [e67, b129_67 hr _ _ _ _ _ _ hgs, px_bi_T ⟨by omega, by omega, hbit⟩, if_neg (by omega), if_pos h1, q33i hr _ _ _ (px_s10 L) (Nat.le_of_ble_eq_true rfl) _ (by omega), Option.bind_some, px_psh_some, b129_94 hr _ _ _ _ _ _ hgs, w1, q34i hr _ _ _ (px_s10 L) (Nat.le_of_ble_eq_true rfl) _ _ (by omega), Option.bind_some, px_psh_none, b129_99 hr _ _ _ _ _ _ hgs, ty_up_row (by omega), hno g hg (by omega), w3, if_neg (by omega), q33i hr _ _ _ (px_s11 L) (Nat.le_of_ble_eq_true rfl) _ (by omega), Option.bind_some, px_psh_some, b129_126 hr _ _ _ _ _ _ (px_nl_R _), ty_up_row (by decide), w2, q34i hr _ _ _ (px_s11 L) (Nat.le_of_ble_eq_true rfl) _ _ (by omega), Option.bind_some, px_psh_none, b129_131 hr _ _ _ _ _ _ (px_nl_R _), wg]
        · refine hgo (px_up i 10 g (i 10 g + 1)) (ty_ch_up (by decide)) ?_ ?_ ?_
          · intro x
            by_cases ex : x = g
            · rw [ex, ty_up_eq, if_pos ⟨rfl, hbit, h1⟩]
            · rw [ty_up_j ex, if_neg (fun h => ex h.1)]
          · intro x
            rw [if_neg (fun h => h3 h.2.2), ty_up_row (by decide)]
          · rw [e67, b129_67 hr _ _ _ _ _ _ hgs, px_bi_T ⟨by omega, by omega, hbit⟩, if_neg (by omega), if_pos h1, q33i hr _ _ _ (px_s10 L) (Nat.le_of_ble_eq_true rfl) _ (by omega), Option.bind_some, px_psh_some, b129_94 hr _ _ _ _ _ _ hgs, w1, q34i hr _ _ _ (px_s10 L) (Nat.le_of_ble_eq_true rfl) _ _ (by omega), Option.bind_some, px_psh_none, b129_99 hr _ _ _ _ _ _ hgs, ty_up_row (by omega), hno g hg (by omega), w3, if_pos (by omega), wg]
      · refine hgo i ty_ch_rf (fun x => by rw [if_neg (fun h => h1 h.2.2)]) (fun x => by rw [if_neg (fun h => h1 (by omega))]) ?_
        rw [e67, b129_67 hr _ _ _ _ _ _ hgs, px_bi_T ⟨by omega, by omega, hbit⟩, if_neg (by omega), if_neg h1, wg]
    · refine hgo i ty_ch_rf (fun x => by rw [if_neg (fun h => hbit h.2.1)]) (fun x => by rw [if_neg (fun h => hbit h.2.1)]) ?_
      rw [e67, b129_67 hr _ _ _ _ _ _ hgs, px_bi_F (fun h => hbit h.2.2), if_pos rfl, wg]
/-- how high a place lies -/
def tn_hi (i : MI) (p : Int) : Int := if p = -1 then 0 else i 124 (100 + 2 * p)
theorem tn_hi_b {i : MI} (hQ : ty_Q i) {p : Int} (hp : -1 ≤ p ∧ p < i 124 3) : 0 ≤ tn_hi i p ∧ tn_hi i p ≤ 99 := by
  unfold tn_hi
  by_cases e : p = -1
  · rw [if_pos e]; omega
  · rw [if_neg e]
    exact (hQ.2.2.2.1 p (by omega) hp.2).1.2
theorem tn_hi_at {i : MI} (hQ : ty_Q i) {p : Int} (hp : -1 ≤ p ∧ p < i 124 3) : ty_at (i 14) 8 p = tn_hi i p := by
  have b3 := hQ.2.2.1.2
  unfold tn_hi
  by_cases e : p = -1
  · rw [if_pos e, e]
    rfl
  · rw [if_neg e, ty_at_in (by omega)]
    exact (hQ.2.2.2.1 p (by omega) hp.2).1.1
/-- soak -/
theorem tn_129 (hr : px_hr r) (d : Nat) (i l : MI) (m S : Int) (PL : Int → Int) (hQ : ty_Q i) (hm : 0 ≤ m ∧ m < 1440) (hS : 0 ≤ S ∧ S < 1024) (h2 : i 9 2 = S) (hp : ∀ g, 0 ≤ g → g < 10 → i 105 g = PL g ∧ -1 ≤ PL g ∧ PL g < i 124 3) (hb : ∀ x, 0 ≤ x → x < 10 → 0 ≤ i 10 x ∧ i 10 x ≤ 2000 ∧ 0 ≤ i 11 x ∧ i 11 x ≤ 2000) :
    ∃ i1 : MI, px_C (d + 4 + 1) 129 [vR 103, vR 9, vI m] (px_sh L, i, l, r, t) = some (none, (px_sh L, i1, l, r, t)) ∧ ty_ch [10, 11, 70, 71, 72] i i1 ∧ ty_Q i1 ∧
      (∀ x, 0 ≤ x → x < 10 → i1 10 x = i 10 x + (if x < i 124 4 ∧ ty_bit S x = true ∧ tn_hi i (PL x) < ty_lev i m then 1 else 0)) ∧
      ∀ x, 0 ≤ x → x < 10 → i1 11 x = i 11 x + (if x < i 124 4 ∧ ty_bit S x = true ∧ tn_hi i (PL x) + i 124 (121 + 14 * x) < ty_lev i m then 1 else 0) := by
  have b4 := hQ.2.1
  obtain ⟨i1, r1, c1, -, v1⟩ := q65 (L := L) (r := r) (t := t) hr d i l m hQ.1 hm
  have hlb := ty_lev_b (i := i) hm.1
  have Q1 : ty_Q i1 := ⟨v1, ty_HG_ch hQ.2 c1 rfl⟩
  have nob : ∀ g, 0 ≤ g → g < i 124 4 → i (21 + g.toNat) 1 = i 124 (121 + 14 * g) ∧ 0 ≤ i 124 (121 + 14 * g) ∧ i 124 (121 + 14 * g) ≤ 30 := fun g g0 g1 => by
    have h := hQ.2.2.2.2.1 g g0 g1 1 (by omega) (by omega)
    have e := h.1
    have e2 := h.2.1
    have e3 := h.2.2.2.1 (by omega)
    rw [show 120 + 14 * g + 1 = 121 + 14 * g by omega] at e e2 e3
    exact ⟨e, e2, e3⟩
  have e105 : i1 105 = i 105 := c1 105 (by decide)
  obtain ⟨i2, r2, c2, p1, p2⟩ := tn_129_n (L := L) (r := r) (t := t) hr (d + 3) l m (ty_lev i m) S (i 124 4) (i 105) (fun g => tn_hi i (i 105 g)) (fun g => i 124 (121 + 14 * g)) hS b4.2 hlb (fun g g0 g1 => by
    have := hp g g0 (by omega)
    rw [this.1]
    exact tn_hi_b hQ this.2) (fun g g0 g1 => (nob g g0 g1).2) (i 124 4).toNat i1 0 vJ vJ px_nl_J px_nl_J (by rw [c1 9 (by decide)]; exact h2) e105 (by rw [c1 4 (by decide)]; exact b4.1) (fun g g0 g1 => by
    have := hp g g0 (by omega)
    rw [c1 14 (by decide), this.1]
    exact tn_hi_at hQ this.2) (fun g g0 g1 => by
    rw [c1 (21 + g.toNat) (by simp only [List.mem_cons, List.not_mem_nil, or_false]; omega)]
    exact (nob g g0 g1).1) (fun x x0 x1 => by
    rw [c1 10 (by decide), c1 11 (by decide)]
    exact hb x x0 x1) (by omega) (by omega)
  refine ⟨i2, ?_, ty_ch_tr c1 c2 rfl rfl, tn_Q Q1 (tn_fr_ch c2 rfl), fun x x0 x1 => ?_, fun x x0 x1 => ?_⟩
  · rw [e129, b129_0 hr, r1, Option.bind_some, px_psh_some, b129_8 hr]
    exact r2
  · rw [p1 x x0 x1, c1 10 (by decide)]
    rw [(hp x x0 x1).1]
    by_cases c : x < i 124 4 ∧ ty_bit S x = true ∧ tn_hi i (PL x) < ty_lev i m
    · rw [if_pos c, if_pos ⟨x0, c⟩]
    · rw [if_neg c, if_neg (fun h => c h.2)]
  · rw [p2 x x0 x1, c1 11 (by decide)]
    rw [(hp x x0 x1).1]
    by_cases c : x < i 124 4 ∧ ty_bit S x = true ∧ tn_hi i (PL x) + i 124 (121 + 14 * x) < ty_lev i m
    · rw [if_pos c, if_pos ⟨x0, c⟩]
    · rw [if_neg c, if_neg (fun h => c h.2)]
end TNO
