/-! The hatch: canAllGetOut (116), canAll (223). -/
def th_go (q E bag : Int → Int) (X : Int) : Nat → Int → Int → Bool
  | 0, _, _ => true
  | n + 1, k, t => if ty_bit X (q k) = true then (if t + (1 + bag (q k)) ≤ E (q k) then th_go q E bag X n (k + 1) (t + (1 + bag (q k))) else false) else th_go q E bag X n (k + 1) t
def th_B (i : MI) : Int → Int := fun g => i 124 (124 + 14 * g)
theorem th_B_b {i : MI} (hQ : ty_HG i) {g : Int} (g0 : 0 ≤ g) (g1 : g < i 124 4) : i (21 + g.toNat) 4 = th_B i g ∧ 0 ≤ th_B i g ∧ th_B i g ≤ 9 := by
  have h := hQ.2.2.2.1 g g0 g1 4 (by omega) (by omega)
  have e := h.1
  have e2 := h.2.1
  have e3 := h.2.2.1 (by omega)
  rw [show 120 + 14 * g + 4 = 124 + 14 * g by omega] at e e2 e3
  exact ⟨e, e2, e3⟩
section THG
variable {L t : Nat} {r : MR}
theorem th_116_n (hr : px_hr r) (d : Nat) (i l : MI) (X m G c : Int) (E q bag : Int → Int) (hX : 0 ≤ X ∧ X < 1024) (hG : i 4 6 = G ∧ 0 ≤ G ∧ G ≤ 10) (hE : i 118 = E) (hEb : ∀ g, 0 ≤ g → g < G → E g ≤ 1440) (hq : i 119 = q) (hc : i 116 7 = c ∧ c ≤ 10) (hqb : ∀ x, 0 ≤ x → x < c → 0 ≤ q x ∧ q x < G) (hb : ∀ g, 0 ≤ g → g < G → i (21 + g.toNat) 4 = bag g ∧ 0 ≤ bag g ∧ bag g ≤ 9) : ∀ (n : Nat) (k tm : Int) (v5 v6 : PV), px_nl v5 → px_nl v6 → 0 ≤ k → k + n = c → 0 ≤ tm → tm ≤ 1440 →
    px_X (d + 1) 116 (5, [vR 116, vI X, vI m, vI tm, vI k, v5, v6], []) (px_sh L, i, l, r, t) = some (some (vI (ty_b (th_go q E bag X n k tm))), (px_sh L, i, l, r, t))
  | 0, k, tm, v5, v6, hn5, hn6, hk, hn, t0, t1 => by
    rw [b116_5 hr _ _ _ _ _ _ _ hn5 hn6, if_pos (by omega)]
    rfl
  | n + 1, k, tm, v5, v6, hn5, hn6, hk, hn, t0, t1 => by
    have hqk := hqb k hk (by omega)
    have hbk := hb (q k) hqk.1 hqk.2
    have hEk := hEb (q k) hqk.1 hqk.2
    have hgs : px_gs (21 + (q k).toNat) := px_gs_mk21 (by omega)
    have wk : px_w32 (k + 1) = k + 1 := ty_w (by omega)
    have w1 : px_w32 (1 + bag (q k)) = 1 + bag (q k) := ty_w (by omega)
    have w2 : px_w32 (tm + (1 + bag (q k))) = tm + (1 + bag (q k)) := ty_w (by omega)
    rw [b116_5 hr _ _ _ _ _ _ _ hn5 hn6, if_neg (by omega), q33i hr _ _ _ (px_s119 L) (Nat.le_of_ble_eq_true rfl) _ (by omega), Option.bind_some, px_psh_some, hq, b116_23 hr _ _ _ _ _ _ _ hn5 hn6, q52R hr _ _ _ _ (by omega), Option.bind_some, px_psh_some, b116_34_g hr _ _ _ _ _ _ _ _ hn6 hgs, q32 hr _ _ _ _ _ hX.1 (by omega), Option.bind_some, px_psh_some, b116_47 hr _ _ _ _ _ _ _ _ hgs, wk, hbk.1, w1, w2]
    unfold th_go
    by_cases hbit : ty_bit X (q k) = true
    · rw [px_bi_T ⟨by omega, by omega, hbit⟩, if_neg (show ¬ (1 : Int) = 0 by decide), if_pos hbit, q33i hr _ _ _ (px_s118 L) (Nat.le_of_ble_eq_true rfl) _ (by omega), Option.bind_some, px_psh_some, hE, b116_73 hr _ _ _ _ _ _ _ _ (px_nl_R _), wk]
      by_cases ce : tm + (1 + bag (q k)) ≤ E (q k)
      · rw [if_pos ce, if_pos ce, th_116_n hr d i l X m G c E q bag hX hG hE hEb hq hc hqb hb n (k + 1) (tm + (1 + bag (q k))) _ _ (px_nl_I _) (px_nl_R _) (by omega) (by omega) (by omega) (by omega)]
      · rw [if_neg ce, if_neg ce]
        rfl
    · rw [px_bi_F (fun h => hbit h.2.2), if_pos rfl, if_neg hbit, th_116_n hr d i l X m G c E q bag hX hG hE hEb hq hc hqb hb n (k + 1) tm _ _ (px_nl_I _) (px_nl_R _) (by omega) (by omega) t0 t1]
/-- the one who must go first -/
def th_bs (E : Int → Int) (W g b : Int) : Prop := (b = -1 ∧ ∀ y, 0 ≤ y → y < g → ¬ ty_bit W y = true) ∨ ((0 ≤ b ∧ b < g) ∧ ty_bit W b = true ∧ ∀ y, 0 ≤ y → y < g → ty_bit W y = true → E b < E y ∨ (E b = E y ∧ b ≤ y))
theorem th_223_g (hr : px_hr r) (d : Nat) (i l : MI) (X m tm W G : Int) (E : Int → Int) (hW : 0 ≤ W ∧ W < 1024) (hG : i 124 4 = G ∧ 0 ≤ G ∧ G ≤ 10) (hE : i 155 = E) : ∀ (n : Nat) (g b : Int), 0 ≤ g → g + n = G → th_bs E W g b →
    ∃ b', th_bs E W G b' ∧ px_X (d + 1) 223 (16, [vR 123, vI X, vI m, vI tm, vI W, vI b, vI g], []) (px_sh L, i, l, r, t) = px_X (d + 1) 223 (16, [vR 123, vI X, vI m, vI tm, vI W, vI b', vI G], []) (px_sh L, i, l, r, t)
  | 0, g, b, hg, hn, hb => by
    have e : g = G := by omega
    rw [e] at hb ⊢
    exact ⟨b, hb, rfl⟩
  | n + 1, g, b, hg, hn, hb => by
    have wg : px_w32 (g + 1) = g + 1 := ty_w (by omega)
    have h16 := b223_16 (L := L) (t := t) hr d i l X m tm W b g (fun _ _ _ => by omega) (fun _ _ h => by
      rcases hb with ⟨a, -⟩ | ⟨a, -⟩
      · exact absurd a h
      · omega)
    rw [if_neg (by omega), wg, hE] at h16
    by_cases hbit : ty_bit W g = true
    · rw [if_pos ((th_b1 hW (by omega)).mpr hbit)] at h16
      have takes : (∀ y, 0 ≤ y → y < g → ty_bit W y = true → E g < E y) → th_bs E W (g + 1) g := fun h => Or.inr ⟨⟨hg, by omega⟩, hbit, fun y y0 y1 hy => by
        by_cases ey : y = g
        · rw [ey]
          exact Or.inr ⟨rfl, Int.le_refl g⟩
        · exact Or.inl (h y y0 (by omega) hy)⟩
      by_cases hb1 : b = -1
      · rw [if_pos hb1] at h16
        have hno : ∀ y, 0 ≤ y → y < g → ¬ ty_bit W y = true := by
          rcases hb with ⟨-, a⟩ | ⟨a, -⟩
          · exact a
          · omega
        obtain ⟨b', k1, r1⟩ := th_223_g hr d i l X m tm W G E hW hG hE n (g + 1) g (by omega) (by omega) (takes (fun y y0 y1 hy => absurd hy (hno y y0 y1)))
        exact ⟨b', k1, by rw [h16, r1]⟩
      · rw [if_neg hb1] at h16
        rcases hb with ⟨a, -⟩ | ⟨a1, a2, a3⟩
        · exact absurd a hb1
        · by_cases ce : E b ≤ E g
          · rw [if_pos ce] at h16
            obtain ⟨b', k1, r1⟩ := th_223_g hr d i l X m tm W G E hW hG hE n (g + 1) b (by omega) (by omega) (Or.inr ⟨⟨a1.1, by omega⟩, a2, fun y y0 y1 hy => by
              by_cases ey : y = g
              · rw [ey]
                omega
              · exact a3 y y0 (by omega) hy⟩)
            exact ⟨b', k1, by rw [h16, r1]⟩
          · rw [if_neg ce] at h16
            obtain ⟨b', k1, r1⟩ := th_223_g hr d i l X m tm W G E hW hG hE n (g + 1) g (by omega) (by omega) (takes (fun y y0 y1 hy => by
              have := a3 y y0 y1 hy
              omega))
            exact ⟨b', k1, by rw [h16, r1]⟩
    · rw [if_neg (fun h => hbit ((th_b1 hW (by omega)).mp h))] at h16
      obtain ⟨b', k1, r1⟩ := th_223_g hr d i l X m tm W G E hW hG hE n (g + 1) b (by omega) (by omega) (by
        rcases hb with ⟨a1, a2⟩ | ⟨a1, a2, a3⟩
        · refine Or.inl ⟨a1, fun y y0 y1 hy => ?_⟩
          by_cases ey : y = g
          · rw [ey] at hy
            exact hbit hy
          · exact a2 y y0 (by omega) hy
        · refine Or.inr ⟨⟨a1.1, by omega⟩, a2, fun y y0 y1 hy => ?_⟩
          by_cases ey : y = g
          · rw [ey] at hy
            exact absurd hy hbit
          · exact a3 y y0 (by omega) hy)
      exact ⟨b', k1, by rw [h16, r1]⟩
theorem th_223_m (hr : px_hr r) (d : Nat) (i l : MI) (X m S G c : Int) (E E' q bag : Int → Int) (hG : i 124 4 = G ∧ 0 ≤ G ∧ G ≤ 10) (hE : i 155 = E') (hEE : ∀ g, 0 ≤ g → g < G → E' g = E g ∧ E g ≤ 1440) (hQ : th_Qu E S G q c) (hb : ∀ g, 0 ≤ g → g < G → i 124 (124 + 14 * g) = bag g ∧ 0 ≤ bag g ∧ bag g ≤ 9) : ∀ (n : Nat) (k tm W : Int) (v5 v6 : PV), px_nl v5 → px_nl v6 → (0 ≤ W ∧ W < 1024) → 0 ≤ k → k + n = c → 0 ≤ tm → tm ≤ 1440 → (∀ g, 0 ≤ g → g < 10 → (ty_bit W g = true ↔ ty_bit X g = true ∧ ∃ x, k ≤ x ∧ x < c ∧ q x = g)) →
    px_X (d + 1) 223 (5, [vR 123, vI X, vI m, vI tm, vI W, v5, v6], []) (px_sh L, i, l, r, t) = some (some (vI (ty_b (th_go q E bag X n k tm))), (px_sh L, i, l, r, t))
  | 0, k, tm, W, v5, v6, hn5, hn6, hW, hk, hn, t0, t1, hbit => by
    have hW0 : W = 0 := th_0 hW (fun j j0 j1 => by
      cases h : ty_bit W j with
      | false => rfl
      | true =>
        obtain ⟨-, x, x0, x1, -⟩ := (hbit j j0 j1).mp h
        omega)
    rw [b223_5 hr _ _ _ _ _ _ _ hn5 hn6, if_pos hW0]
    rfl
  | n + 1, k, tm, W, v5, v6, hn5, hn6, hW, hk, hn, t0, t1, hbit => by
    have hqk := hQ.1 k hk (by omega)
    unfold th_go
    by_cases hX : ty_bit X (q k) = true
    · have hWq : ty_bit W (q k) = true := (hbit (q k) hqk.1.1 (by omega)).mpr ⟨hX, k, Int.le_refl k, by omega, rfl⟩
      have hW0 : ¬ W = 0 := fun h => by
        rw [h, th_z] at hWq
        exact absurd hWq (by decide)
      obtain ⟨b, hbs, r1⟩ := th_223_g (L := L) (r := r) (t := t) hr d i l X m tm W G E' hW hG hE G.toNat 0 (-1) (by omega) (by omega) (Or.inl ⟨rfl, fun y y0 y1 => by omega⟩)
      have hbq : b = q k := by
        rcases hbs with ⟨-, a⟩ | ⟨a1, a2, a3⟩
        · exact absurd hWq (a (q k) hqk.1.1 hqk.1.2)
        · obtain ⟨-, x, x0, x1, x2⟩ := (hbit b a1.1 (by omega)).mp a2
          by_cases ex : x = k
          · rw [← x2, ex]
          · have h1 := hQ.2.1 k x hk (by omega) x1
            have h2 := a3 (q k) hqk.1.1 hqk.1.2 hWq
            rw [x2] at h1
            rw [(hEE b a1.1 a1.2).1, (hEE (q k) hqk.1.1 hqk.1.2).1] at h2
            omega
      have hbk := hb (q k) hqk.1.1 hqk.1.2
      have hEk := hEE (q k) hqk.1.1 hqk.1.2
      have w1 : px_w32 (1 + bag (q k)) = 1 + bag (q k) := ty_w (by omega)
      have w2 : px_w32 (tm + (1 + bag (q k))) = tm + (1 + bag (q k)) := ty_w (by omega)
      have hrm := th_rm (X := W) (k := q k) hW (by omega)
      have h16 := b223_16 (L := L) (t := t) hr d i l X m tm W (q k) G (fun h => absurd (by omega) h) (fun h => absurd (by omega) h)
      rw [if_pos (by omega), q146 hr _ _ _ _ _ (by omega) (by omega), show 120 + 14 * q k + 4 = 124 + 14 * q k by omega, hbk.1, Option.bind_some, px_psh_some, b223_80 hr _ _ _ _ _ _ _ _ _ _ _ _ (by omega), w1, w2, hE, hEk.1] at h16
      rw [hbq] at r1
      rw [b223_5 hr _ _ _ _ _ _ _ hn5 hn6, if_neg hW0, r1, h16, if_pos hX]
      by_cases ce : tm + (1 + bag (q k)) ≤ E (q k)
      · rw [if_pos ce, if_pos ce, th_223_m hr d i l X m S G c E E' q bag hG hE hEE hQ hb n (k + 1) (tm + (1 + bag (q k))) (px_and W (px_xor (px_shl 1 (q k)) (-1))) _ _ (px_nl_I _) (px_nl_I _) hrm.1 (by omega) (by omega) (by omega) (by omega) (fun g g0 g1 => by
          rw [hrm.2 g g0 (by omega), Bool.and_eq_true, decide_eq_true_iff, hbit g g0 g1]
          constructor
          · rintro ⟨⟨a, x, x0, x1, x2⟩, ne⟩
            refine ⟨a, x, ?_, x1, x2⟩
            by_cases ex : x = k
            · rw [ex] at x2
              exact absurd x2.symm ne
            · omega
          · rintro ⟨a, x, x0, x1, x2⟩
            refine ⟨⟨a, x, by omega, x1, x2⟩, fun ne => ?_⟩
            have h1 := hQ.2.1 k x hk (by omega) x1
            rw [x2, ne] at h1
            omega)]
      · rw [if_neg ce, if_neg ce]
        rfl
    · rw [if_neg hX]
      exact th_223_m hr d i l X m S G c E E' q bag hG hE hEE hQ hb n (k + 1) tm W v5 v6 hn5 hn6 hW (by omega) (by omega) t0 t1 (fun g g0 g1 => by
        rw [hbit g g0 g1]
        constructor
        · rintro ⟨a, x, x0, x1, x2⟩
          refine ⟨a, x, ?_, x1, x2⟩
          by_cases ex : x = k
          · rw [ex] at x2
            rw [← x2] at a
            exact absurd a hX
          · omega
        · rintro ⟨a, x, x0, x1, x2⟩
          exact ⟨a, x, by omega, x1, x2⟩)
end THG
