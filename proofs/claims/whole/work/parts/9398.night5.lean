/-! note (127), begin (85), soak (129). -/
section TNN
variable {L t : Nat} {r : MR}
theorem tn_127_n (hr : px_hr r) (d : Nat) (l : MI) (S T G : Int) (PL : Int → Int) (hS : 0 ≤ S ∧ S < 1024) (hT : 0 ≤ T ∧ T ≤ 1440) (hG : 0 ≤ G ∧ G ≤ 10) : ∀ (n : Nat) (i : MI) (g : Int), i 9 0 = T → i 9 2 = S → i 105 = PL → i 4 6 = G → (∀ x, g ≤ x → x < 10 → 0 ≤ i 12 x ∧ i 12 x ≤ 1440) → 0 ≤ g → g + n = G →
    ∃ i1 : MI, px_X (d + 1 + 1) 127 (2, [vR 103, vR 9, vI g], []) (px_sh L, i, l, r, t) = px_X (d + 1 + 1) 127 (2, [vR 103, vR 9, vI G], []) (px_sh L, i1, l, r, t) ∧ ty_ch [12, 13, 106] i i1 ∧
      (∀ x, 0 ≤ x → x < 10 → i1 12 x = i 12 x + (if g ≤ x ∧ x < G ∧ ty_bit S x = true ∧ 0 < T ∧ ¬ i 106 x = PL x then 1 else 0)) ∧
      (∀ x, 0 ≤ x → x < 10 → i1 106 x = if g ≤ x ∧ x < G ∧ ty_bit S x = true then PL x else i 106 x) ∧
      ∀ k x, 0 ≤ k → k < 50 → 0 ≤ x → x < 10 → i1 13 (10 * k + x) = if k = T ∧ g ≤ x ∧ x < G ∧ ty_bit S x = true then PL x else i 13 (10 * k + x)
  | 0, i, g, h0, h2, hp, h4, hb, hg, hn => by
    have e : g = G := by omega
    rw [e]
    exact ⟨i, rfl, ty_ch_rf, fun x x0 x1 => by rw [if_neg (by omega), Int.add_zero], fun x x0 x1 => by rw [if_neg (by omega)], fun k x k0 k1 x0 x1 => by rw [if_neg (by omega)]⟩
  | n + 1, i, g, h0, h2, hp, h4, hb, hg, hn => by
    have wg : px_w32 (g + 1) = g + 1 := ty_w (by omega)
    have e21 : px_X (d + 1 + 1) 127 (2, [vR 103, vR 9, vI g], []) (px_sh L, i, l, r, t) = px_X (d + 1 + 1) 127 (21, [vR 103, vR 9, vI g], [vI (px_bi (0 ≤ g ∧ g < 31 ∧ ty_bit S g = true))]) (px_sh L, i, l, r, t) := by
      rw [b127_2 hr, if_neg (by omega), h2, q32 hr _ _ _ _ _ hS.1 (by omega), Option.bind_some, px_psh_some]
    by_cases hbit : ty_bit S g = true
    · obtain ⟨ia, hia⟩ : ∃ ia : MI, ia = if 0 < T ∧ ¬ i 106 g = PL g then px_up i 12 g (i 12 g + 1) else i := ⟨_, rfl⟩
      have ra : ∀ k, k ≠ 12 → ia k = i k := fun k hk => by
        rw [hia]
        split
        · exact ty_up_row hk
        · rfl
      have va : ∀ x, ia 12 x = if x = g ∧ 0 < T ∧ ¬ i 106 g = PL g then i 12 g + 1 else i 12 x := fun x => by
        rw [hia]
        by_cases c : 0 < T ∧ ¬ i 106 g = PL g
        · rw [if_pos c]
          by_cases ex : x = g
          · rw [ex, ty_up_eq, if_pos ⟨rfl, c⟩]
          · rw [ty_up_j ex, if_neg (fun h => ex h.1)]
        · rw [if_neg c, if_neg (fun h => c h.2)]
      have e68 : px_X (d + 1 + 1) 127 (2, [vR 103, vR 9, vI g], []) (px_sh L, i, l, r, t) = px_X (d + 1 + 1) 127 (68, [vR 103, vR 9, vI g], []) (px_sh L, ia, l, r, t) := by
        have hb12 := hb g (Int.le_refl g) (by omega)
        rw [e21, b127_21 hr, px_bi_T ⟨by omega, by omega, hbit⟩, if_neg (by omega), h0]
        by_cases c0 : T ≤ 0
        · rw [if_pos c0, hia, if_neg (fun h => by omega)]
        · rw [if_neg c0, q33i hr _ _ _ (px_s106 L) (Nat.le_of_ble_eq_true rfl) _ (by omega), Option.bind_some, px_psh_some, b127_39 hr, q33i hr _ _ _ (px_s105 L) (Nat.le_of_ble_eq_true rfl) _ (by omega), Option.bind_some, px_psh_some, b127_47 hr, hp]
          by_cases c1 : i 106 g = PL g
          · rw [if_pos c1, hia, if_neg (fun h => h.2 c1)]
          · rw [if_neg c1, q33i hr _ _ _ (px_s12 L) (Nat.le_of_ble_eq_true rfl) _ (by omega), Option.bind_some, px_psh_some, b127_63 hr, ty_w (x := i 12 g + 1) (by omega), q34i hr _ _ _ (px_s12 L) (Nat.le_of_ble_eq_true rfl) _ _ (by omega), Option.bind_some, px_psh_none, hia, if_pos ⟨by omega, c1⟩]
      obtain ⟨ib, hib⟩ : ∃ ib : MI, ib = if T < 50 then px_up ia 13 (T * 10 + g) (PL g) else ia := ⟨_, rfl⟩
      have rb : ∀ k, k ≠ 13 → ib k = ia k := fun k hk => by
        rw [hib]
        split
        · exact ty_up_row hk
        · rfl
      have vb : ∀ k x, 0 ≤ k → k < 50 → 0 ≤ x → x < 10 → ib 13 (10 * k + x) = if k = T ∧ x = g then PL g else i 13 (10 * k + x) := fun k x k0 k1 x0 x1 => by
        rw [hib]
        by_cases c : T < 50
        · rw [if_pos c]
          by_cases e : k = T ∧ x = g
          · rw [if_pos e, show 10 * k + x = T * 10 + g by omega, ty_up_eq]
          · rw [if_neg e, ty_up_j (by omega), ra 13 (by decide)]
        · rw [if_neg c, if_neg (by omega), ra 13 (by decide)]
      have e81 : px_X (d + 1 + 1) 127 (68, [vR 103, vR 9, vI g], []) (px_sh L, ia, l, r, t) = px_X (d + 1 + 1) 127 (81, [vR 103, vR 9, vI g], []) (px_sh L, ib, l, r, t) := by
        rw [b127_68 hr, q33i hr _ _ _ (px_s105 L) (Nat.le_of_ble_eq_true rfl) _ (by omega), Option.bind_some, px_psh_some, b127_78 hr, ra 105 (by decide), hp, e86, b86_0 hr, ra 9 (by decide), h0]
        by_cases c : 50 ≤ T
        · rw [if_pos c, Option.bind_some, px_psh_none, hib, if_neg (by omega)]
        · rw [if_neg c, ty_w (x := T * 10) (by omega), ty_w (x := T * 10 + g) (by omega), q34i hr _ _ _ (px_s13 L) (Nat.le_of_ble_eq_true rfl) _ _ (by omega), Option.bind_some, px_psh_none, b86_26 hr, Option.bind_some, px_psh_none, hib, if_pos (by omega)]
      obtain ⟨ic, hic⟩ : ∃ ic : MI, ic = px_up ib 106 g (PL g) := ⟨_, rfl⟩
      have rc : ∀ k, k ≠ 106 → ic k = ib k := fun k hk => by
        rw [hic]
        exact ty_up_row hk
      have e2 : px_X (d + 1 + 1) 127 (81, [vR 103, vR 9, vI g], []) (px_sh L, ib, l, r, t) = px_X (d + 1 + 1) 127 (2, [vR 103, vR 9, vI (g + 1)], []) (px_sh L, ic, l, r, t) := by
        rw [b127_81 hr, q33i hr _ _ _ (px_s105 L) (Nat.le_of_ble_eq_true rfl) _ (by omega), Option.bind_some, px_psh_some, b127_94 hr, rb 105 (by decide), ra 105 (by decide), hp, q34i hr _ _ _ (px_s106 L) (Nat.le_of_ble_eq_true rfl) _ _ (by omega), Option.bind_some, px_psh_none, b127_97 hr, wg, ← hic]
      have c12 : ∀ x, ic 12 x = ia 12 x := fun x => by rw [rc 12 (by decide), rb 12 (by decide)]
      have cc : ty_ch [12, 13, 106] i ic := fun k hk => by
        have k12 : k ≠ 12 := fun e => hk (by rw [e]; decide)
        have k13 : k ≠ 13 := fun e => hk (by rw [e]; decide)
        have k106 : k ≠ 106 := fun e => hk (by rw [e]; decide)
        rw [rc k k106, rb k k13, ra k k12]
      obtain ⟨i1, r1, c1, p1, p2, p3⟩ := tn_127_n hr d l S T G PL hS hT hG n ic (g + 1) (by rw [cc 9 (by decide)]; exact h0) (by rw [cc 9 (by decide)]; exact h2) (by rw [cc 105 (by decide)]; exact hp) (by rw [cc 4 (by decide)]; exact h4) (fun x x0 x1 => by
        rw [c12, va x, if_neg (by omega)]
        exact hb x (by omega) x1) (by omega) (by omega)
      refine ⟨i1, by rw [e68, e81, e2, r1], ty_ch_tr cc c1 rfl rfl, fun x x0 x1 => ?_, fun x x0 x1 => ?_, fun k x k0 k1 x0 x1 => ?_⟩
      · rw [p1 x x0 x1, c12, va x]
        by_cases ex : x = g
        · rw [ex, if_neg (show ¬ (g + 1 ≤ g ∧ g < G ∧ ty_bit S g = true ∧ 0 < T ∧ ¬ ic 106 g = PL g) from fun h => by omega), Int.add_zero]
          by_cases c : 0 < T ∧ ¬ i 106 g = PL g
          · rw [if_pos ⟨rfl, c⟩, if_pos ⟨by omega, by omega, hbit, c⟩]
          · rw [if_neg (fun h => c h.2), if_neg (fun h => c h.2.2.2), Int.add_zero]
        · rw [if_neg (fun h => ex h.1), hic, ty_up_j ex, rb 106 (by decide), ra 106 (by decide)]
          by_cases c : g + 1 ≤ x ∧ x < G ∧ ty_bit S x = true ∧ 0 < T ∧ ¬ i 106 x = PL x
          · rw [if_pos c, if_pos ⟨by omega, c.2⟩]
          · rw [if_neg c, if_neg (fun h => c ⟨by omega, h.2⟩)]
      · rw [p2 x x0 x1]
        by_cases ex : x = g
        · rw [ex, if_neg (by omega), hic, ty_up_eq, if_pos ⟨by omega, by omega, hbit⟩]
        · rw [hic, ty_up_j ex, rb 106 (by decide), ra 106 (by decide)]
          by_cases c : g + 1 ≤ x ∧ x < G ∧ ty_bit S x = true
          · rw [if_pos c, if_pos ⟨by omega, c.2⟩]
          · rw [if_neg c, if_neg (fun h => c ⟨by omega, h.2⟩)]
      · rw [p3 k x k0 k1 x0 x1, rc 13 (by decide), vb k x k0 k1 x0 x1]
        by_cases ex : k = T ∧ x = g
        · rw [if_neg (by omega), if_pos ex, if_pos ⟨ex.1, by omega, by omega, by rw [ex.2]; exact hbit⟩, ex.2]
        · rw [if_neg ex]
          by_cases c : k = T ∧ g + 1 ≤ x ∧ x < G ∧ ty_bit S x = true
          · rw [if_pos c, if_pos ⟨c.1, by omega, c.2.2⟩]
          · rw [if_neg c, if_neg (fun h => c ⟨h.1, by omega, h.2.2⟩)]
    · obtain ⟨i1, r1, c1, p1, p2, p3⟩ := tn_127_n hr d l S T G PL hS hT hG n i (g + 1) h0 h2 hp h4 (fun x x0 x1 => hb x (by omega) x1) (by omega) (by omega)
      have ne : ∀ x, ¬ (x = g ∧ ty_bit S x = true) := fun x h => hbit (by rw [← h.1]; exact h.2)
      have sh : ∀ x, (g + 1 ≤ x ∧ x < G ∧ ty_bit S x = true) ↔ (g ≤ x ∧ x < G ∧ ty_bit S x = true) := fun x => by
        constructor
        · rintro ⟨a, b, c⟩
          exact ⟨by omega, b, c⟩
        · rintro ⟨a, b, c⟩
          have := ne x
          by_cases ex : x = g
          · exact absurd ⟨ex, c⟩ this
          · exact ⟨by omega, b, c⟩
      refine ⟨i1, by rw [e21, b127_21 hr, px_bi_F (fun h => hbit h.2.2), if_pos rfl, wg, r1], c1, fun x x0 x1 => ?_, fun x x0 x1 => ?_, fun k x k0 k1 x0 x1 => ?_⟩
      · rw [p1 x x0 x1]
        by_cases c : g + 1 ≤ x ∧ x < G ∧ ty_bit S x = true ∧ 0 < T ∧ ¬ i 106 x = PL x
        · have c' := (sh x).mp ⟨c.1, c.2.1, c.2.2.1⟩
          rw [if_pos c, if_pos ⟨c'.1, c.2⟩]
        · rw [if_neg c, if_neg (fun h => c (by
            have c' := (sh x).mpr ⟨h.1, h.2.1, h.2.2.1⟩
            exact ⟨c'.1, h.2⟩))]
      · rw [p2 x x0 x1]
        by_cases c : g + 1 ≤ x ∧ x < G ∧ ty_bit S x = true
        · rw [if_pos c, if_pos ((sh x).mp c)]
        · rw [if_neg c, if_neg (fun h => c ((sh x).mpr h))]
      · rw [p3 k x k0 k1 x0 x1]
        by_cases c : k = T ∧ g + 1 ≤ x ∧ x < G ∧ ty_bit S x = true
        · rw [if_pos c, if_pos ⟨c.1, (sh x).mp c.2⟩]
        · rw [if_neg c, if_neg (fun h => c ⟨h.1, (sh x).mpr h.2⟩)]
/-- note -/
theorem tn_127 (hr : px_hr r) (d : Nat) (i l : MI) (m S T : Int) (hT2 : ty_T2 i m) (hS : 0 ≤ S ∧ S < 1024) (hT : 0 ≤ T ∧ T ≤ 1440) (h0 : i 9 0 = T) (h2 : i 9 2 = S) (h1 : 0 ≤ i 9 1 ∧ i 9 1 ≤ 100000) (hb : ∀ x, 0 ≤ x → x < 10 → 0 ≤ i 12 x ∧ i 12 x ≤ 1440) :
    ∃ i1 : MI, px_C (d + 2 + 1 + 1) 127 [vR 103, vR 9] (px_sh L, i, l, r, t) = some (none, (px_sh L, i1, l, r, t)) ∧ ty_ch [9, 12, 13, 71, 72, 106] i i1 ∧ ty_T2 i1 m ∧
      i1 9 0 = T + 1 ∧ i1 9 1 = i 9 1 + tn_cc (tn_f i m S (i 105)) (i 124 4) (i 124 4).toNat 0 ∧ i1 9 2 = S ∧
      (∀ x, 0 ≤ x → x < 10 → i1 12 x = i 12 x + (if x < i 124 4 ∧ ty_bit S x = true ∧ 0 < T ∧ ¬ i 106 x = i 105 x then 1 else 0)) ∧
      (∀ x, 0 ≤ x → x < 10 → i1 106 x = if x < i 124 4 ∧ ty_bit S x = true then i 105 x else i 106 x) ∧
      ∀ k x, 0 ≤ k → k < 50 → 0 ≤ x → x < 10 → i1 13 (10 * k + x) = if k = T ∧ x < i 124 4 ∧ ty_bit S x = true then i 105 x else i 13 (10 * k + x) := by
  have hQ := hT2.1
  have b4 := hQ.2.1
  obtain ⟨i1, r1, c1, p1, p2, p3⟩ := tn_127_n (L := L) (r := r) (t := t) hr (d + 2) l S T (i 124 4) (i 105) hS hT b4.2 (i 124 4).toNat i 0 h0 h2 rfl b4.1 hb (by omega) (by omega)
  have T1 : ty_T2 i1 m := tn_T2 hT2 (tn_fr_ch c1 rfl)
  obtain ⟨i2, r2, c2, T2⟩ := tn_128 (L := L) (r := r) (t := t) hr d i1 l m S hS T1
  have e4 : i1 4 6 = i 124 4 := by rw [c1 4 (by decide)]; exact b4.1
  have e124 : i1 124 = i 124 := c1 124 (by decide)
  have ecc : tn_cc (tn_f i1 m S (i1 105)) (i1 124 4) (i1 124 4).toNat 0 = tn_cc (tn_f i m S (i 105)) (i 124 4) (i 124 4).toNat 0 := by
    rw [e124, c1 105 (by decide)]
    refine tn_cc_c _ _ (fun x y x0 xy y1 => ?_)
    unfold tn_f
    rw [tn_qu_fp hQ (tn_fp_ch c1 rfl) (by omega) (by omega), tn_qu_fp hQ (tn_fp_ch c1 rfl) (by omega) (by omega)]
  rw [ecc] at r2
  have h45 := tn_cc_45 (f := tn_f i m S (i 105)) b4.2
  obtain ⟨q, hq⟩ : ∃ q : Int, q = tn_cc (tn_f i m S (i 105)) (i 124 4) (i 124 4).toNat 0 := ⟨_, rfl⟩
  rw [← hq] at r2 h45 ⊢
  have e9 : i1 9 = i 9 := c1 9 (by decide)
  have f9 : i2 9 = i 9 := by rw [c2 9 (by decide), e9]
  obtain ⟨j, hj⟩ : ∃ j : MI, j = px_up (px_up i2 9 1 (i 9 1 + q)) 9 0 (T + 1) := ⟨_, rfl⟩
  have cj : ty_ch [9] i2 j := fun k hk => by
    have k9 : k ≠ 9 := fun e => hk (by rw [e]; decide)
    rw [hj, ty_up_row k9, ty_up_row k9]
  refine ⟨j, ?_, ty_ch_tr (ty_ch_tr c1 c2 (S'' := [12, 13, 71, 72, 106]) rfl rfl) cj rfl rfl, tn_T2 T2 (tn_fr_ch cj rfl), by rw [hj, ty_up_eq], by rw [hj, ty_up_j (by omega), ty_up_eq], by rw [hj, ty_up_j (by omega), ty_up_j (by omega), f9, h2], fun x x0 x1 => ?_, fun x x0 x1 => ?_, fun k x k0 k1 x0 x1 => ?_⟩
  · have hb116 := b127_116 (L := L) (t := t) hr (d + 2 + 1 + 1) i2 l (i 124 4) q (i 9 1)
    rw [show px_w32 (i 9 1 + q) = i 9 1 + q from ty_w (by omega), f9, h0, show px_w32 (T + 1) = T + 1 from ty_w (by omega), ← hj] at hb116
    rw [e127, b127_0 hr, r1, b127_2 hr, if_pos (by omega), e9, h2, r2, Option.bind_some, px_psh_some]
    exact hb116
  · rw [cj 12 (by decide), c2 12 (by decide), p1 x x0 x1]
    by_cases c : x < i 124 4 ∧ ty_bit S x = true ∧ 0 < T ∧ ¬ i 106 x = i 105 x
    · rw [if_pos c, if_pos ⟨x0, c⟩]
    · rw [if_neg c, if_neg (fun h => c h.2)]
  · rw [cj 106 (by decide), c2 106 (by decide), p2 x x0 x1]
    by_cases c : x < i 124 4 ∧ ty_bit S x = true
    · rw [if_pos c, if_pos ⟨x0, c⟩]
    · rw [if_neg c, if_neg (fun h => c h.2)]
  · rw [cj 13 (by decide), c2 13 (by decide), p3 k x k0 k1 x0 x1]
    by_cases c : k = T ∧ x < i 124 4 ∧ ty_bit S x = true
    · rw [if_pos c, if_pos ⟨c.1, x0, c.2⟩]
    · rw [if_neg c, if_neg (fun h => c ⟨h.1, h.2.2⟩)]
/-- begin -/
theorem tn_85 (hr : px_hr r) (d : Nat) (i l : MI) (S : Int) :
    ∃ i1 : MI, px_C (d + 1) 85 [vR 9, vI S] (px_sh L, i, l, r, t) = some (none, (px_sh L, i1, l, r, t)) ∧ ty_ch [9, 10, 11, 12] i i1 ∧ i1 9 0 = 0 ∧ i1 9 1 = 0 ∧ i1 9 2 = S ∧ ∀ x, 0 ≤ x → x < 10 → i1 10 x = 0 ∧ i1 11 x = 0 ∧ i1 12 x = 0 := by
  obtain ⟨j, hj⟩ : ∃ j : MI, j = px_up (px_up (px_up i 9 0 0) 9 1 0) 9 2 S := ⟨_, rfl⟩
  have cj : ty_ch [9] i j := fun k hk => by
    have k9 : k ≠ 9 := fun e => hk (by rw [e]; decide)
    rw [hj, ty_up_row k9, ty_up_row k9, ty_up_row k9]
  obtain ⟨j1, hj1⟩ : ∃ j1 : MI, j1 = px_un j 10 (fun x => if 0 ≤ x ∧ x < ((10 : Nat) : Int) then 0 else j 10 x) := ⟨_, rfl⟩
  obtain ⟨j2, hj2⟩ : ∃ j2 : MI, j2 = px_un j1 11 (fun x => if 0 ≤ x ∧ x < ((10 : Nat) : Int) then 0 else j1 11 x) := ⟨_, rfl⟩
  obtain ⟨j3, hj3⟩ : ∃ j3 : MI, j3 = px_un j2 12 (fun x => if 0 ≤ x ∧ x < ((10 : Nat) : Int) then 0 else j2 12 x) := ⟨_, rfl⟩
  have r3 : ∀ k, k ≠ 12 → j3 k = j2 k := fun k hk => by rw [hj3, ty_un_row hk]
  have r2 : ∀ k, k ≠ 11 → j2 k = j1 k := fun k hk => by rw [hj2, ty_un_row hk]
  have r1 : ∀ k, k ≠ 10 → j1 k = j k := fun k hk => by rw [hj1, ty_un_row hk]
  have e9 : j3 9 = j 9 := by rw [r3 9 (by decide), r2 9 (by decide), r1 9 (by decide)]
  refine ⟨j3, ?_, fun k hk => ?_, by rw [e9, hj, ty_up_j (by omega), ty_up_j (by omega), ty_up_eq], by rw [e9, hj, ty_up_j (by omega), ty_up_eq], by rw [e9, hj, ty_up_eq], fun x x0 x1 => ⟨?_, ?_, ?_⟩⟩
  · rw [e85, b85_0 hr, ← hj, q241 hr _ _ _ (px_s10 L) (Nat.le_of_ble_eq_true rfl) (by omega), Option.bind_some, px_psh_none, ← hj1, b85_23 hr, q241 hr _ _ _ (px_s11 L) (Nat.le_of_ble_eq_true rfl) (by omega), Option.bind_some, px_psh_none, ← hj2, b85_31 hr, q241 hr _ _ _ (px_s12 L) (Nat.le_of_ble_eq_true rfl) (by omega), Option.bind_some, px_psh_none, ← hj3, b85_39 hr]
  · have k9 : k ≠ 9 := fun e => hk (by rw [e]; decide)
    have k10 : k ≠ 10 := fun e => hk (by rw [e]; decide)
    have k11 : k ≠ 11 := fun e => hk (by rw [e]; decide)
    have k12 : k ≠ 12 := fun e => hk (by rw [e]; decide)
    rw [r3 k k12, r2 k k11, r1 k k10, cj k (by simp only [List.mem_singleton]; exact k9)]
  · rw [r3 10 (by decide), r2 10 (by decide), hj1, ty_un_eq, if_pos (by omega)]
  · rw [r3 11 (by decide), hj2, ty_un_eq, if_pos (by omega)]
  · rw [hj3, ty_un_eq, if_pos (by omega)]
end TNN
