/-! rafts: class and reference. -/
section TYRA
variable {L t : Nat} {r : MR}
/-- bears -/
theorem q70 (hr : px_hr r) (d : Nat) (i l : MI) (x : Int) (hL : ty_LW i) (hx : 1 ≤ x ∧ x ≤ 20) :
    ∃ i1 : MI, px_C (d + 3 + 1) 70 [vR 68, vI x] (px_sh L, i, l, r, t) = some (some (vI (ty_br i x)), (px_sh L, i1, l, r, t)) ∧ ty_ch [71, 72] i i1 := by
  obtain ⟨j, hj⟩ : ∃ j : MI, j = px_up i 71 14 x := ⟨_, rfl⟩
  have cj : ty_ch [71] i j := by
    rw [hj]
    exact ty_ch_up (by decide)
  have hLj : ty_LW j := ty_LW_ch hL cj rfl
  have w : px_w32 (100 * x) = 100 * x := ty_w (by omega)
  have h14 : ∀ v, 0 ≤ v → v < 15 → ty_may 3 v → j 71 v = x := fun v v0 v1 hv => by
    rw [hv.2.2.2.1 rfl, hj, ty_up_eq]
  obtain ⟨i1, r1, c1⟩ := q71 (L := L) (t := t) hr d j l 3 99999 (100 * x) hLj (by omega) (fun v v0 v1 hv => by rw [h14 v v0 v1 hv]; omega)
  have e : ty_says j 3 99999 (100 * x) (j 71) = ty_br i x := by
    unfold ty_br
    rw [← ty_says_ch hL cj rfl]
    exact ty_says_env hLj h14
  refine ⟨i1, ?_, ty_ch_tr cj c1 rfl rfl⟩
  rw [e70, b70_0 hr, q34i hr _ _ _ (px_s71 L) (Nat.le_of_ble_eq_true rfl) _ _ (by omega), Option.bind_some, px_psh_none, ← hj, b70_10 hr, w, r1, e, Option.bind_some, px_psh_some, b70_21 hr]
theorem ty_117_b (hr : px_hr r) (d : Nat) (l i0 : MI) (hL0 : ty_LW i0) : ∀ (n : Nat) (i : MI) (x : Int), ty_ch [71, 72, 120] i0 i → 1 ≤ x → x + n = 21 → (∀ y, 1 ≤ y → y < x → i 120 y = ty_br i0 y) →
    ∃ i1 : MI, px_X (d + 3 + 1 + 1) 117 (2, [vR 116, vI x, vJ], []) (px_sh L, i, l, r, t) = px_X (d + 3 + 1 + 1) 117 (2, [vR 116, vI 21, vJ], []) (px_sh L, i1, l, r, t) ∧ ty_ch [71, 72, 120] i0 i1 ∧ ∀ y, 1 ≤ y → y < 21 → i1 120 y = ty_br i0 y
  | 0, i, x, hc, hx, hn, hb => by
    have e : x = 21 := by omega
    rw [e] at hb ⊢
    exact ⟨i, rfl, hc, hb⟩
  | n + 1, i, x, hc, hx, hn, hb => by
    have w : px_w32 (x + 1) = x + 1 := ty_w (by omega)
    obtain ⟨i1, r1, c1⟩ := q70 (L := L) (t := t) hr d i l x (ty_LW_ch hL0 hc rfl) (by omega)
    rw [ty_br_ch hL0 hc rfl] at r1
    have cu : ty_ch [120] i1 (px_up i1 120 x (ty_br i0 x)) := ty_ch_up (by decide)
    obtain ⟨i2, r2, c2, h2⟩ := ty_117_b hr d l i0 hL0 n (px_up i1 120 x (ty_br i0 x)) (x + 1) (ty_ch_tr (ty_ch_tr hc c1 (S'' := [71, 72, 120]) rfl rfl) cu rfl rfl) (by omega) (by omega) (fun y y0 y1 => by
      by_cases e : y = x
      · rw [e, ty_up_eq]
      · rw [ty_up_j e, c1 120 (by decide)]
        exact hb y y0 (by omega))
    refine ⟨i2, ?_, c2, h2⟩
    rw [b117_2 hr, if_neg (by omega), r1, Option.bind_some, px_psh_some, b117_21 hr, q34i hr _ _ _ (px_s120 L) (Nat.le_of_ble_eq_true rfl) _ _ (by omega), Option.bind_some, px_psh_none, b117_24 hr, w, r2]
/-- doorsForAll -/
theorem ty_118_w (hr : px_hr r) (d : Nat) (i l : MI) (W : Int → Int) (s : Int) (hs : 0 ≤ s ∧ s < 128) (h7 : i 4 9 ≤ 7) (hW : ∀ h, 0 ≤ h → h < i 4 9 → i 16 h = W h ∧ 1 ≤ W h ∧ W h ≤ 999) : ∀ (n : Nat) (k a : Int), 0 ≤ k → k + n = i 4 9 → 0 ≤ a ∧ a ≤ 999 * k →
    px_X (d + 1) 118 (4, [vR 116, vI s, vI a, vI k], []) (px_sh L, i, l, r, t) = px_X (d + 1) 118 (49, [vR 116, vI s, vI (ty_wt W s n k a), vI 1], []) (px_sh L, i, l, r, t)
  | 0, k, a, hk, hn, ha => by
    rw [b118_4 hr, if_pos (by omega)]
    rfl
  | n + 1, k, a, hk, hn, ha => by
    have w : px_w32 (k + 1) = k + 1 := ty_w (by omega)
    have hw := hW k hk (by omega)
    have e : ty_wt W s (n + 1) k a = ty_wt W s n (k + 1) (a + if ty_bit s k = true then W k else 0) := rfl
    rw [b118_4 hr, if_neg (by omega), q32 hr _ _ _ _ _ hs.1 (by omega), Option.bind_some, px_psh_some, b118_21 hr, e]
    by_cases hb : ty_bit s k = true
    · have w2 : px_w32 (a + W k) = a + W k := ty_w (by omega)
      rw [px_bi_T ⟨hk, by omega, hb⟩, if_neg (by omega), q33i hr _ _ _ (px_s16 L) (Nat.le_of_ble_eq_true rfl) _ (by omega), Option.bind_some, px_psh_some, b118_35 hr, hw.1, w, w2, if_pos hb]
      exact ty_118_w hr d i l W s hs h7 hW n (k + 1) _ (by omega) (by omega) (by omega)
    · have w2 : px_w32 (a + 0) = a + 0 := ty_w (by omega)
      rw [px_bi_F (fun h => hb h.2.2), if_pos rfl, w, w2, if_neg hb]
      exact ty_118_w hr d i l W s hs h7 hW n (k + 1) _ (by omega) (by omega) (by omega)
theorem ty_118_d (hr : px_hr r) (d : Nat) (i l : MI) (B : Int → Int) (x1 w : Int) (hB : ∀ y, 1 ≤ y → y < 21 → i 120 y = B y) : ∀ (n : Nat) (k : Int), 1 ≤ k → k + n = 21 →
    px_X (d + 1) 118 (49, [vR 116, vI x1, vI w, vI k], []) (px_sh L, i, l, r, t) = some (some (vI (if ty_ld B w n k = 0 then 1000 else ty_ld B w n k)), (px_sh L, i, l, r, t))
  | 0, k, hk, hn => by
    rw [b118_49 hr, if_pos (by omega)]
    rfl
  | n + 1, k, hk, hn => by
    have w1 : px_w32 (k + 1) = k + 1 := ty_w (by omega)
    have e : ty_ld B w (n + 1) k = if w ≤ B k then k else ty_ld B w n (k + 1) := rfl
    rw [b118_49 hr, if_neg (by omega), q33i hr _ _ _ (px_s120 L) (Nat.le_of_ble_eq_true rfl) _ (by omega), hB k hk (by omega), Option.bind_some, px_psh_some, b118_63 hr, e]
    by_cases h : w ≤ B k
    · rw [if_neg (by omega), if_pos h, if_neg (by omega)]
    · rw [if_pos (by omega), if_neg h, w1]
      exact ty_118_d hr d i l B x1 w hB n (k + 1) (by omega) (by omega)
theorem q118 (hr : px_hr r) (d : Nat) (i l : MI) (B W : Int → Int) (s : Nat) (hs : s < 128) (h7 : 0 ≤ i 4 9 ∧ i 4 9 ≤ 7) (hW : ∀ h, 0 ≤ h → h < i 4 9 → i 16 h = W h ∧ 1 ≤ W h ∧ W h ≤ 999) (hB : ∀ y, 1 ≤ y → y < 21 → i 120 y = B y) :
    px_C (d + 1) 118 [vR 116, vI (s : Int)] (px_sh L, i, l, r, t) = some (some (vI (ty_ro B W (i 4 9).toNat s)), (px_sh L, i, l, r, t)) := by
  rw [e118, b118_0 hr, ty_118_w hr d i l W (s : Int) (by omega) h7.2 hW (i 4 9).toNat 0 0 (by omega) (by omega) (by omega), ty_118_d hr d i l B _ _ hB 20 1 (by omega) (by omega)]
  rfl
/-- fewestFor -/
theorem ty_119_n (hr : px_hr r) (d : Nat) (i l : MI) (O F : Nat → Int) (s : Nat) (hs : s < 128) (lo : Int) (C : Nat → Prop) (hC : ∀ p, p < 128 → (C p ↔ ¬ px_and (p : Int) lo = 0)) (hO : ∀ p : Nat, 1 ≤ p → p ≤ s → i 121 (p : Int) = O p ∧ 0 ≤ O p ∧ O p ≤ 1000) (hF : ∀ p : Nat, p < s → i 122 (p : Int) = F p ∧ 0 ≤ F p ∧ F p ≤ 1000) : ∀ (n k : Nat) (acc : Int), 1 ≤ k → k + n = s + 1 → 0 ≤ acc ∧ acc ≤ 1000 →
    ∃ v : Int, px_X (d + 1) 119 (12, [vR 116, vI (s : Int), vI lo, vI acc, vI (k : Int)], []) (px_sh L, i, l, r, t) = some (some (vI v), (px_sh L, i, l, r, t)) ∧ ty_sp O F C s k n acc v ∧ 0 ≤ v
  | 0, k, acc, hk, hn, ha => by
    exact ⟨acc, by rw [b119_12 hr, if_pos (by omega)], ty_sp_0, ha.1⟩
  | n + 1, k, acc, hk, hn, ha => by
    have w : px_w32 ((k : Int) + 1) = ((k + 1 : Nat) : Int) := by rw [ty_w (by omega)]; omega
    have e1 : px_and (k : Int) (px_xor (s : Int) (-1)) = ((ty_sb k s : Nat) : Int) := ty_an_nat (by omega) (by omega)
    have e2 : px_and (s : Int) (px_xor (k : Int) (-1)) = ((ty_sb s k : Nat) : Int) := ty_an_nat (by omega) (by omega)
    rw [b119_12 hr, if_neg (by omega), e1, w]
    by_cases h1 : ty_sb k s = 0
    · rw [if_pos (by omega)]
      by_cases h2 : px_and (k : Int) lo = 0
      · rw [if_pos h2]
        obtain ⟨v, r1, h3, h4⟩ := ty_119_n hr d i l O F s hs lo C hC hO hF n (k + 1) acc (by omega) (by omega) ha
        exact ⟨v, r1, ty_sp_no (fun h => (hC k (by omega)).mp h.2 h2) h3, h4⟩
      · have hlt := ty_sb_lt hk h1
        have hk1 := hO k hk (by omega)
        have hk2 := hF _ hlt
        have w2 : px_w32 (O k + F (ty_sb s k)) = O k + F (ty_sb s k) := ty_w (by omega)
        rw [if_neg h2, q33i hr _ _ _ (px_s121 L) (Nat.le_of_ble_eq_true rfl) _ (by omega), hk1.1, Option.bind_some, px_psh_some, b119_44 hr, e2, q33i hr _ _ _ (px_s122 L) (Nat.le_of_ble_eq_true rfl) _ (by omega), hk2.1, Option.bind_some, px_psh_some, b119_57 hr, w, w2]
        by_cases h5 : O k + F (ty_sb s k) < acc
        · rw [if_pos h5]
          obtain ⟨v, r1, h3, h4⟩ := ty_119_n hr d i l O F s hs lo C hC hO hF n (k + 1) (O k + F (ty_sb s k)) (by omega) (by omega) (by omega)
          exact ⟨v, r1, ty_sp_lt h1 ((hC k (by omega)).mpr h2) (by omega) h3, h4⟩
        · rw [if_neg h5]
          obtain ⟨v, r1, h3, h4⟩ := ty_119_n hr d i l O F s hs lo C hC hO hF n (k + 1) acc (by omega) (by omega) ha
          exact ⟨v, r1, ty_sp_le (by omega) h3, h4⟩
    · rw [if_neg (by omega)]
      obtain ⟨v, r1, h3, h4⟩ := ty_119_n hr d i l O F s hs lo C hC hO hF n (k + 1) acc (by omega) (by omega) ha
      exact ⟨v, r1, ty_sp_no (fun h => h1 h.1) h3, h4⟩
theorem q119 (hr : px_hr r) (d : Nat) (i l : MI) (O F : Nat → Int) (s : Nat) (h0 : 0 < s) (hs : s < 128) (hO : ∀ p : Nat, 1 ≤ p → p ≤ s → i 121 (p : Int) = O p ∧ 0 ≤ O p ∧ O p ≤ 1000) (hF : ∀ p : Nat, p < s → i 122 (p : Int) = F p ∧ 0 ≤ F p ∧ F p ≤ 1000) :
    ∃ v : Int, px_C (d + 1) 119 [vR 116, vI (s : Int)] (px_sh L, i, l, r, t) = some (some (vI v), (px_sh L, i, l, r, t)) ∧ ty_sp O F (fun p => p.testBit (ty_lb s) = true) s 1 s 1000 v ∧ 0 ≤ v := by
  obtain ⟨h1, h2, h3⟩ := ty_low h0 hs
  obtain ⟨v, r1, h4, h5⟩ := ty_119_n (L := L) (r := r) (t := t) hr d i l O F s hs ((2 ^ ty_lb s : Nat) : Int) (fun p => p.testBit (ty_lb s) = true) (fun p hp => by
    rw [ty_and_low hp h1.2]
    cases p.testBit (ty_lb s)
    · exact ⟨fun h => absurd h (by decide), fun h => absurd rfl h⟩
    · exact ⟨fun _ => by decide, fun _ => rfl⟩) hO hF s 1 1000 (by omega) (by omega) (by omega)
  exact ⟨v, by rw [e119, b119_0 hr, h1.1]; exact r1, h4, h5⟩
/-- the class's tables -/
def ty_FC (i : MI) (O : Nat → Int) (k : Nat) : Prop := (∀ p : Nat, 1 ≤ p → p < k → i 121 (p : Int) = O p) ∧ (i 122 0 = 0 ∧ ∀ s : Nat, s < k → 0 ≤ i 122 (s : Int) ∧ i 122 (s : Int) ≤ 1000) ∧ ∀ s : Nat, 0 < s → s < k → ty_sp O (fun p => i 122 (p : Int)) (fun p => p.testBit (ty_lb s) = true) s 1 s 1000 (i 122 (s : Int))
theorem ty_117_s (hr : px_hr r) (d : Nat) (l : MI) (B W : Int → Int) (N : Nat) (hN : N ≤ 128) : ∀ (n : Nat) (i : MI) (k : Nat), (0 ≤ i 4 9 ∧ i 4 9 ≤ 7) → (∀ h, 0 ≤ h → h < i 4 9 → i 16 h = W h ∧ 1 ≤ W h ∧ W h ≤ 999) → (∀ y, 1 ≤ y → y < 21 → i 120 y = B y) → ty_FC i (ty_ro B W (i 4 9).toNat) k → 1 ≤ k → k + n = N →
    ∃ i1 : MI, px_X (d + 1 + 1) 117 (60, [vR 116, vI (N : Int), vI (k : Int)], []) (px_sh L, i, l, r, t) = px_X (d + 1 + 1) 117 (60, [vR 116, vI (N : Int), vI (N : Int)], []) (px_sh L, i1, l, r, t) ∧ ty_ch [121, 122] i i1 ∧ ty_FC i1 (ty_ro B W (i 4 9).toNat) N
  | 0, i, k, h7, hW, hB, hT, hk, hn => by
    have e : k = N := by omega
    rw [e] at hT ⊢
    exact ⟨i, rfl, ty_ch_rf, hT⟩
  | n + 1, i, k, h7, hW, hB, hT, hk, hn => by
    obtain ⟨t1, ⟨t2, t3⟩, t4⟩ := hT
    obtain ⟨O, hO⟩ : ∃ O : Nat → Int, O = ty_ro B W (i 4 9).toNat := ⟨_, rfl⟩
    have hOb : ∀ p, 0 ≤ O p ∧ O p ≤ 1000 := fun p => by
      rw [hO]
      exact ty_ro_b B W _ p
    have w : px_w32 ((k : Int) + 1) = ((k + 1 : Nat) : Int) := by rw [ty_w (by omega)]; omega
    have r1 := q118 (L := L) (t := t) hr d i l B W k (by omega) h7 hW hB
    rw [← hO] at r1 t1 t4 ⊢
    obtain ⟨j, hj⟩ : ∃ j : MI, j = px_up i 121 (k : Int) (O k) := ⟨_, rfl⟩
    have cj : ty_ch [121] i j := by
      rw [hj]
      exact ty_ch_up (by decide)
    have j121 : ∀ p : Nat, 1 ≤ p → p ≤ k → j 121 (p : Int) = O p := fun p p0 p1 => by
      by_cases e : p = k
      · rw [e, hj, ty_up_eq]
      · rw [hj, ty_up_j (by omega)]
        exact t1 p p0 (by omega)
    have j122 : j 122 = i 122 := cj 122 (by decide)
    obtain ⟨v, r2, s2, v0⟩ := q119 (L := L) (r := r) (t := t) hr d j l O (fun p => i 122 (p : Int)) k hk (by omega) (fun p p0 p1 => ⟨j121 p p0 p1, hOb p⟩) (fun p p1 => ⟨by rw [j122], t3 p p1⟩)
    obtain ⟨j2, hj2⟩ : ∃ j2 : MI, j2 = px_up j 122 (k : Int) v := ⟨_, rfl⟩
    have cj2 : ty_ch [122] j j2 := by
      rw [hj2]
      exact ty_ch_up (by decide)
    have cc : ty_ch [121, 122] i j2 := ty_ch_tr cj cj2 rfl rfl
    have r4 : j2 4 = i 4 := cc 4 (by decide)
    have r16 : j2 16 = i 16 := cc 16 (by decide)
    have r120 : j2 120 = i 120 := cc 120 (by decide)
    have r121 : j2 121 = j 121 := cj2 121 (by decide)
    have r122 : ∀ p : Nat, p < k → j2 122 (p : Int) = i 122 (p : Int) := fun p hp => by
      rw [hj2, ty_up_j (by omega), j122]
    have r122k : j2 122 (k : Int) = v := by rw [hj2, ty_up_eq]
    obtain ⟨i1, r3, c3, h3⟩ := ty_117_s hr d l B W N hN n j2 (k + 1) (by rw [r4]; exact h7) (by rw [r4, r16]; exact hW) (by rw [r120]; exact hB) ⟨fun p p0 p1 => by rw [r121, r4, ← hO]; exact j121 p p0 (by omega), ⟨by rw [show (0 : Int) = ((0 : Nat) : Int) from rfl, r122 0 hk]; exact t2, fun s hs => by
      by_cases e : s = k
      · rw [e, r122k]
        exact ⟨v0, s2.1⟩
      · rw [r122 s (by omega)]
        exact t3 s (by omega)⟩, fun s s0 s1 => by
      rw [r4, ← hO]
      by_cases e : s = k
      · rw [e, r122k]
        exact ty_sp_c (fun p p0 ps => r122 _ (ty_sb_lt p0 ps)) s2
      · rw [r122 s (by omega)]
        exact ty_sp_c (fun p p0 ps => r122 _ (by have := ty_sb_lt p0 ps; omega)) (t4 s s0 (by omega))⟩ (by omega) (by omega)
    rw [r4, ← hO] at h3
    refine ⟨i1, ?_, ty_ch_tr cc c3 rfl rfl, h3⟩
    rw [b117_60 hr, if_neg (by omega), r1, Option.bind_some, px_psh_some, b117_75 hr, q34i hr _ _ _ (px_s121 L) (Nat.le_of_ble_eq_true rfl) _ _ (by omega), Option.bind_some, px_psh_none, ← hj, b117_78 hr, r2, Option.bind_some, px_psh_some, b117_88 hr, q34i hr _ _ _ (px_s122 L) (Nat.le_of_ble_eq_true rfl) _ _ (by omega), Option.bind_some, px_psh_none, ← hj2, b117_91 hr, w, r3]
/-- fewestDoors -/
theorem q117 (hr : px_hr r) (d : Nat) (i l : MI) (W : Int → Int) (H : Nat) (hL : ty_LW i) (hH : i 4 9 = (H : Int)) (h7 : H ≤ 7) (hW : ∀ h, 0 ≤ h → h < i 4 9 → i 16 h = W h ∧ 1 ≤ W h ∧ W h ≤ 999) :
    ∃ (i1 : MI) (v : Int), px_C (d + 3 + 1 + 1) 117 [vR 116] (px_sh L, i, l, r, t) = some (some (vI (if 1000 ≤ v then -1 else v)), (px_sh L, i1, l, r, t)) ∧ ty_ch [71, 72, 120, 121, 122] i i1 ∧ ty_FC i1 (ty_ro (ty_br i) W H) (2 ^ H) ∧ v = i1 122 ((2 ^ H - 1 : Nat) : Int) := by
  obtain ⟨i1, r1, c1, h1⟩ := ty_117_b (L := L) (r := r) (t := t) hr d l i hL 20 i 1 ty_ch_rf (by omega) (by omega) (fun y y0 y1 => by omega)
  have hp1 : 2 ^ H ≤ 2 ^ 7 := Nat.pow_le_pow_right (by omega) h7
  have hp0 : 0 < 2 ^ H := Nat.two_pow_pos H
  have f4 : i1 4 = i 4 := c1 4 (by decide)
  have es : px_shl 1 (if 0 < (if (i1 4 9) < 7 then (i1 4 9) else 7) then (if (i1 4 9) < 7 then (i1 4 9) else 7) else 0) = ((2 ^ H : Nat) : Int) := by
    have e : (if 0 < (if (i1 4 9) < 7 then (i1 4 9) else 7) then (if (i1 4 9) < 7 then (i1 4 9) else 7) else 0) = (H : Int) := by
      rw [f4, hH]
      by_cases h : (H : Int) < 7
      · rw [if_pos h]
        by_cases h0 : 0 < (H : Int)
        · rw [if_pos h0]
        · rw [if_neg h0]; omega
      · rw [if_neg h, if_pos (by omega)]; omega
    rw [e, ty_shl_1 H (by omega)]
  obtain ⟨j, hj⟩ : ∃ j : MI, j = px_up i1 122 0 0 := ⟨_, rfl⟩
  have cj : ty_ch [122] i1 j := by
    rw [hj]
    exact ty_ch_up (by decide)
  have cc : ty_ch [71, 72, 120, 122] i j := ty_ch_tr c1 cj rfl rfl
  have j4 : j 4 = i 4 := cc 4 (by decide)
  have j16 : j 16 = i 16 := cc 16 (by decide)
  have j120 : j 120 = i1 120 := cj 120 (by decide)
  have j0 : j 122 0 = 0 := by rw [hj, ty_up_eq]
  obtain ⟨i2, r2, c2, h2⟩ := ty_117_s (L := L) (r := r) (t := t) hr (d + 3) l (ty_br i) W (2 ^ H) (by omega) (2 ^ H - 1) j 1 (by rw [j4]; omega) (by rw [j4, j16]; exact hW) (by rw [j120]; exact h1) ⟨fun p p0 p1 => by omega, ⟨j0, fun s s1 => by
    have : s = 0 := by omega
    rw [this, show ((0 : Nat) : Int) = 0 from rfl, j0]
    omega⟩, fun s s0 s1 => by omega⟩ (by omega) (by omega)
  rw [j4, hH, Int.toNat_natCast] at h2
  have w : px_w32 (((2 ^ H : Nat) : Int) - 1) = ((2 ^ H - 1 : Nat) : Int) := by rw [ty_w (by omega)]; omega
  have e1 : ((1 : Nat) : Int) = 1 := rfl
  rw [e1] at r2
  refine ⟨i2, i2 122 ((2 ^ H - 1 : Nat) : Int), ?_, ty_ch_tr cc c2 rfl rfl, h2, rfl⟩
  rw [e117, b117_0 hr, r1, b117_2 hr, if_pos (by omega), q34i hr _ _ _ (px_s122 L) (Nat.le_of_ble_eq_true rfl) _ _ (by omega), Option.bind_some, px_psh_none, ← hj, es, b117_58 hr, r2, b117_60 hr, if_pos (Int.le_refl _), w, q33i hr _ _ _ (px_s122 L) (Nat.le_of_ble_eq_true rfl) _ (by omega), Option.bind_some, px_psh_some, b117_107 hr]
  by_cases h : 1000 ≤ i2 122 ((2 ^ H - 1 : Nat) : Int)
  · rw [if_pos h, if_pos h]
  · rw [if_neg h, if_neg h]
end TYRA
