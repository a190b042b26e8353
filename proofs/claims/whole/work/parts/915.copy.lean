/-! copyFrom of a house; image, back (printed by wip/whole/gen_copy.py). -/
section TYC
variable {L t : Nat} {r : MR}
theorem q35x (hr : px_hr r) (d : Nat) (i l : MI) {k k' n : Nat} (hk : (px_sh L)[k]? = some (.inr (0, n))) (h3 : 3 ≤ k) (hk' : (px_sh L)[k']? = some (.inr (0, n))) (h3' : 3 ≤ k') : ∃ i1 : MI, px_C d 35 [vR k, vR k'] (px_sh L, i, l, r, t) = some (none, (px_sh L, i1, l, r, t)) ∧ ty_ch [k'] i i1 ∧ ∀ j : Int, 0 ≤ j → j < (n : Int) → i1 k' j = i k j := by
  refine ⟨_, q35 hr d i l hk h3 hk' h3', ty_ch_un (List.mem_singleton.mpr rfl), fun j j0 j1 => ?_⟩
  rw [ty_un_eq, if_pos ⟨j0, j1⟩]
theorem q50 (hr : px_hr r) (d : Nat) (i l : MI) {k0 k1 : Nat} (h0 : px_gs k0) (h1 : px_gs k1) (hn : k0 ≠ k1) (hb : (i k1 2 = 0 ∨ i k1 2 = 1) ∧ (i k1 8 = 0 ∨ i k1 8 = 1)) : ∃ i1 : MI, px_C (d + 1) 50 [vR k0, vR k1] (px_sh L, i, l, r, t) = some (none, (px_sh L, i1, l, r, t)) ∧ (∀ k, k ≠ k0 → i1 k = i k) ∧ ∀ c : Int, 0 ≤ c → c < 9 → i1 k0 c = i k1 c := by
  obtain ⟨j, hj⟩ : ∃ j : MI, j = (px_up (px_up (px_up (px_up (px_up (px_up (px_up (px_up (px_up i k0 0 (i k1 0)) k0 1 (i k1 1)) k0 2 (i k1 2)) k0 3 (i k1 3)) k0 4 (i k1 4)) k0 5 (i k1 5)) k0 6 (i k1 6)) k0 7 0) k0 8 1) := ⟨_, rfl⟩
  have c1 : ∀ k, k ≠ k0 → j k = i k := fun k hk => by
    rw [hj, ty_up_row hk, ty_up_row hk, ty_up_row hk, ty_up_row hk, ty_up_row hk, ty_up_row hk, ty_up_row hk, ty_up_row hk, ty_up_row hk]
  have r1 := c1 k1 (fun h => hn h.symm)
  refine ⟨px_up (px_up j k0 7 (i k1 7)) k0 8 (i k1 8), ?_, fun k hk => by rw [ty_up_row hk, ty_up_row hk, c1 k hk], fun c c0 c1 => ?_⟩
  · have e2 : (px_up j k0 7 (i k1 7)) k1 8 = i k1 8 := by rw [ty_up_row (fun h => hn h.symm), r1]
    have hb2 := b50_32 (L := L) (t := t) hr (d + 1) j l h0 h1
    rw [r1, e2] at hb2
    rw [e50, b50_0 hr _ _ _ h0 h1, e49, b49_0 hr _ _ _ h0 _ _ _ _ _ _ _ hb.1, ← hj, Option.bind_some, px_psh_none, hb2 hb.2]
  · have hc : c = 0 ∨ c = 1 ∨ c = 2 ∨ c = 3 ∨ c = 4 ∨ c = 5 ∨ c = 6 ∨ c = 7 ∨ c = 8 := by omega
    rcases hc with h | h | h | h | h | h | h | h | h <;> subst h
    · rw [ty_up_j (by omega), ty_up_j (by omega), hj, ty_up_j (by omega), ty_up_j (by omega), ty_up_j (by omega), ty_up_j (by omega), ty_up_j (by omega), ty_up_j (by omega), ty_up_j (by omega), ty_up_j (by omega), ty_up_eq]
    · rw [ty_up_j (by omega), ty_up_j (by omega), hj, ty_up_j (by omega), ty_up_j (by omega), ty_up_j (by omega), ty_up_j (by omega), ty_up_j (by omega), ty_up_j (by omega), ty_up_j (by omega), ty_up_eq]
    · rw [ty_up_j (by omega), ty_up_j (by omega), hj, ty_up_j (by omega), ty_up_j (by omega), ty_up_j (by omega), ty_up_j (by omega), ty_up_j (by omega), ty_up_j (by omega), ty_up_eq]
    · rw [ty_up_j (by omega), ty_up_j (by omega), hj, ty_up_j (by omega), ty_up_j (by omega), ty_up_j (by omega), ty_up_j (by omega), ty_up_j (by omega), ty_up_eq]
    · rw [ty_up_j (by omega), ty_up_j (by omega), hj, ty_up_j (by omega), ty_up_j (by omega), ty_up_j (by omega), ty_up_j (by omega), ty_up_eq]
    · rw [ty_up_j (by omega), ty_up_j (by omega), hj, ty_up_j (by omega), ty_up_j (by omega), ty_up_j (by omega), ty_up_eq]
    · rw [ty_up_j (by omega), ty_up_j (by omega), hj, ty_up_j (by omega), ty_up_j (by omega), ty_up_eq]
    · rw [ty_up_j (by omega), ty_up_eq]
    · rw [ty_up_eq]
/-- one house's cells are another's -/
def ty_cp (o p : Nat) (i i1 : MI) : Prop :=
  (∀ j : Int, 3 ≤ j → j ≤ 9 → i1 (4 + p) j = i (4 + o) j) ∧ i1 (5 + p) 0 = i (5 + o) 0 ∧ (∀ j : Int, 0 ≤ j → j < 12 → i1 (6 + p) j = i (6 + o) j ∧ i1 (7 + p) j = i (7 + o) j ∧ i1 (8 + p) j = i (8 + o) j) ∧
  (i1 (9 + p) 0 = i (9 + o) 0 ∧ i1 (9 + p) 1 = i (9 + o) 1 ∧ i1 (9 + p) 2 = i (9 + o) 2) ∧ (∀ j : Int, 0 ≤ j → j < 10 → i1 (10 + p) j = i (10 + o) j ∧ i1 (11 + p) j = i (11 + o) j ∧ i1 (12 + p) j = i (12 + o) j) ∧
  (∀ j : Int, 0 ≤ j → j < 500 → i1 (13 + p) j = i (13 + o) j) ∧ (∀ j : Int, 0 ≤ j → j < 8 → i1 (14 + p) j = i (14 + o) j ∧ i1 (15 + p) j = i (15 + o) j) ∧ (∀ j : Int, 0 ≤ j → j < 7 → i1 (16 + p) j = i (16 + o) j) ∧ (∀ j : Int, 0 ≤ j → j < 10 → i1 (17 + p) j = i (17 + o) j) ∧
  i1 (19 + p) 8 = i (19 + o) 8 ∧ (∀ j : Int, 0 ≤ j → j < 36 → i1 (20 + p) j = i (20 + o) j) ∧ ∀ k : Nat, k < 10 → ∀ c : Int, 0 ≤ c → c < 9 → i1 (21 + p + k) c = i (21 + o + k) c
theorem ty_cp_H {o p : Nat} {i i1 l l1 : MI} {A A1 : Int → Int} (hc : ty_cp o p i i1) (hl : l1 (19 + p) 7 = l (19 + o) 7) (h2 : i1 123 2 = i 123 2) (h36 : i 123 2 ≤ 36) (hA : ∀ x : Int, 0 ≤ x → x < 820 → A1 x = A x) (h : ty_H o i l A) : ty_H p i1 l1 A1 := by
  obtain ⟨k4, k5, k6, k9, k10, k13, k14, k16, k17, k19, k20, k21⟩ := hc
  obtain ⟨hb, hs, hp, hg, ho, hh, hli, hn⟩ := h
  have b3 := hs.2.2.1
  have b4 := hs.2.2.2.1
  have b7 := hs.2.2.2.2.2.2.1
  have b8 := hs.2.2.2.2.2.2.2
  refine ⟨?_, ?_, fun x x0 x1 => ?_, fun g g0 g1 c c0 c1 => ?_, ⟨fun x x0 x1 => ?_, fun x y x0 xy y1 => ?_⟩, fun x x0 x1 => ?_, fun x x0 x1 => ?_, ?_⟩
  · unfold ty_Hb at hb ⊢
    rw [k19, hl, h2, hA 0 (by omega) (by omega)]
    refine ⟨hb.1, hb.2.1, fun c c0 c1 => ?_⟩
    rw [k20 c c0 (by omega), hA _ (by omega) (by omega), hA _ (by omega) (by omega)]
    exact hb.2.2 c c0 c1
  · unfold ty_Hs at hs ⊢
    rw [k4 3 (by omega) (by omega), k4 4 (by omega) (by omega), k4 5 (by omega) (by omega), k4 6 (by omega) (by omega), k4 7 (by omega) (by omega), k4 8 (by omega) (by omega), k4 9 (by omega) (by omega), k5, hA 1 (by omega) (by omega), hA 2 (by omega) (by omega), hA 3 (by omega) (by omega), hA 4 (by omega) (by omega), hA 5 (by omega) (by omega), hA 6 (by omega) (by omega), hA 7 (by omega) (by omega), hA 8 (by omega) (by omega)]
    exact hs
  · rw [hA 3 (by omega) (by omega)] at x1
    rw [(k14 x x0 (by omega)).1, (k14 x x0 (by omega)).2, hA _ (by omega) (by omega), hA _ (by omega) (by omega)]
    exact hp x x0 x1
  · rw [hA 4 (by omega) (by omega)] at g1
    rw [k21 g.toNat (by omega) c c0 c1, hA _ (by omega) (by omega)]
    exact hg g g0 g1 c c0 c1
  · rw [hA 4 (by omega) (by omega)] at x1 ⊢
    rw [k17 x x0 (by omega)]
    exact ho.1 x x0 x1
  · rw [hA 4 (by omega) (by omega)] at y1
    have hx := ho.1 x x0 (by omega)
    have hy := ho.1 y (by omega) y1
    rw [k17 x x0 (by omega), k17 y (by omega) (by omega), hA _ (by omega) (by omega), hA _ (by omega) (by omega)]
    exact ho.2 x y x0 xy y1
  · rw [hA 7 (by omega) (by omega)] at x1
    rw [k16 x x0 (by omega), hA _ (by omega) (by omega)]
    exact hh x x0 x1
  · rw [hA 8 (by omega) (by omega)] at x1
    have h6 := k6 x x0 (by omega)
    rw [h6.1, h6.2.1, h6.2.2, hA 3 (by omega) (by omega), hA 4 (by omega) (by omega), hA _ (by omega) (by omega), hA _ (by omega) (by omega), hA _ (by omega) (by omega)]
    exact hli x x0 x1
  · unfold ty_Hn at hn ⊢
    rw [k9.1, k9.2.1, k9.2.2, hA 10 (by omega) (by omega), hA 9 (by omega) (by omega), hA 4 (by omega) (by omega)]
    refine ⟨hn.1, hn.2.1, hn.2.2.1, fun g g0 g1 => ?_, fun k g k0 k1 k2 g0 g1 hb => ?_⟩
    · have hk := k10 g g0 g1
      rw [hk.1, hk.2.1, hk.2.2, hA (132 + 14 * g) (by omega) (by omega), hA (129 + 14 * g) (by omega) (by omega), hA (130 + 14 * g) (by omega) (by omega), hA (131 + 14 * g) (by omega) (by omega)]
      exact hn.2.2.2.1 g g0 g1
    · rw [k13 _ (by omega) (by omega), hA _ (by omega) (by omega)]
      exact hn.2.2.2.2 k g k0 k1 k2 g0 g1 hb
theorem ty_cpg_27 (hr : px_hr r) (d : Nat) (l : MI) : ∀ (n : Nat) (i : MI) (g : Int), 0 ≤ g → g + n = 10 → (∀ k : Nat, px_gs k → (i k 2 = 0 ∨ i k 2 = 1) ∧ (i k 8 = 0 ∨ i k 8 = 1)) →
    ∃ i1 : MI, px_X (d + 2) 61 (135, [vR 31, vR 4, vI g], []) (px_sh L, i, l, r, t) = some (none, (px_sh L, i1, l, r, t)) ∧ (∀ k : Nat, ¬ (48 + g.toNat ≤ k ∧ k < 58) → i1 k = i k) ∧ ∀ k : Nat, g.toNat ≤ k → k < 10 → ∀ c : Int, 0 ≤ c → c < 9 → i1 (48 + k) c = i (21 + k) c
  | 0, i, g, h0, hn, hb => by
    exact ⟨i, by rw [b61_R31R4_135 hr _ _ _ _ (fun h => absurd (by omega) h), if_pos (by omega)], fun k _ => rfl, fun k k0 k1 => by omega⟩
  | n + 1, i, g, h0, hn, hb => by
    have w1 : px_w32 (g + 1) = g + 1 := ty_w (by omega)
    have et : (g + 1).toNat = g.toNat + 1 := by omega
    obtain ⟨i1, r1, c1, v1⟩ := q50 (L := L) (t := t) hr d i l (px_gs_mk48 (x := g) (by omega)) (px_gs_mk21 (x := g) (by omega)) (by omega) (hb _ (px_gs_mk21 (by omega)))
    obtain ⟨i2, r2, c2, v2⟩ := ty_cpg_27 hr d l n i1 (g + 1) (by omega) (by omega) (fun k hk => by
      by_cases hkk : k = 48 + g.toNat
      · rw [hkk, v1 2 (by omega) (by omega), v1 8 (by omega) (by omega)]
        exact hb _ (px_gs_mk21 (by omega))
      · rw [c1 k hkk]
        exact hb k hk)
    rw [et] at c2 v2
    refine ⟨i2, ?_, fun k hk => by rw [c2 k (by omega), c1 k (by omega)], fun k k0 k1 c c0 c1' => ?_⟩
    · rw [b61_R31R4_135 hr _ _ _ _ (fun _ _ => by omega), if_neg (by omega), if_neg (by omega), r1, Option.bind_some, px_psh_none, b61_R31R4_186 hr, w1, r2]
    · by_cases hk : k = g.toNat
      · rw [hk, c2 _ (by omega), v1 c c0 c1']
      · rw [v2 k (by omega) k1 c c0 c1', c1 _ (by omega)]
theorem q61_27 (hr : px_hr r) (d : Nat) (i l : MI) (hb : ∀ k : Nat, px_gs k → (i k 2 = 0 ∨ i k 2 = 1) ∧ (i k 8 = 0 ∨ i k 8 = 1)) :
    ∃ i1 : MI, px_C (d + 2) 61 [vR 31, vR 4] (px_sh L, i, l, r, t) = some (none, (px_sh L, i1, px_up l 46 7 (l 19 7), r, t)) ∧ (∀ k : Nat, ¬ (31 ≤ k ∧ k < 58) → i1 k = i k) ∧ ty_cp 0 27 i i1 ∧ (∀ j : Int, j ≠ 8 → i1 46 j = i 46 j) ∧ ∀ k : Nat, px_gs k → (i1 k 2 = 0 ∨ i1 k 2 = 1) ∧ (i1 k 8 = 0 ∨ i1 k 8 = 1) := by
  obtain ⟨j20, r20, c20, v20⟩ := q35x (L := L) (t := t) hr d i l (px_s20 L) (Nat.le_of_ble_eq_true rfl) (px_s47 L) (Nat.le_of_ble_eq_true rfl)
  have f20 := c20
  obtain ⟨j19, h19⟩ : ∃ j : MI, j = (px_up j20 46 8 (j20 19 8)) := ⟨_, rfl⟩
  have c19 : ty_ch [46] j20 j19 := fun q hq => by
    have h : q ≠ 46 := fun e => hq (List.mem_singleton.mpr e)
    rw [h19, ty_up_row h]
  have v19_8 : j19 46 8 = j20 19 8 := by rw [h19]; rfl
  have f19 : ty_ch [47, 46] i j19 := ty_ch_tr f20 c19 rfl rfl
  obtain ⟨j5, h5⟩ : ∃ j : MI, j = (px_up j19 32 0 (j19 5 0)) := ⟨_, rfl⟩
  have c5 : ty_ch [32] j19 j5 := fun q hq => by
    have h : q ≠ 32 := fun e => hq (List.mem_singleton.mpr e)
    rw [h5, ty_up_row h]
  have v5_0 : j5 32 0 = j19 5 0 := by rw [h5]; rfl
  have f5 : ty_ch [47, 46, 32] i j5 := ty_ch_tr f19 c5 rfl rfl
  obtain ⟨j6, r6, c6, v6⟩ := q35x (L := L) (t := t) hr d j5 (px_up l 46 7 (l 19 7)) (px_s6 L) (Nat.le_of_ble_eq_true rfl) (px_s33 L) (Nat.le_of_ble_eq_true rfl)
  have f6 : ty_ch [47, 46, 32, 33] i j6 := ty_ch_tr f5 c6 rfl rfl
  obtain ⟨j7, r7, c7, v7⟩ := q35x (L := L) (t := t) hr d j6 (px_up l 46 7 (l 19 7)) (px_s7 L) (Nat.le_of_ble_eq_true rfl) (px_s34 L) (Nat.le_of_ble_eq_true rfl)
  have f7 : ty_ch [47, 46, 32, 33, 34] i j7 := ty_ch_tr f6 c7 rfl rfl
  obtain ⟨j8, r8, c8, v8⟩ := q35x (L := L) (t := t) hr d j7 (px_up l 46 7 (l 19 7)) (px_s8 L) (Nat.le_of_ble_eq_true rfl) (px_s35 L) (Nat.le_of_ble_eq_true rfl)
  have f8 : ty_ch [47, 46, 32, 33, 34, 35] i j8 := ty_ch_tr f7 c8 rfl rfl
  obtain ⟨j9, h9⟩ : ∃ j : MI, j = (px_up (px_up (px_up j8 36 0 (j8 9 0)) 36 1 (j8 9 1)) 36 2 (j8 9 2)) := ⟨_, rfl⟩
  have c9 : ty_ch [36] j8 j9 := fun q hq => by
    have h : q ≠ 36 := fun e => hq (List.mem_singleton.mpr e)
    rw [h9, ty_up_row h, ty_up_row h, ty_up_row h]
  have v9_0 : j9 36 0 = j8 9 0 := by rw [h9]; rfl
  have v9_1 : j9 36 1 = j8 9 1 := by rw [h9]; rfl
  have v9_2 : j9 36 2 = j8 9 2 := by rw [h9]; rfl
  have f9 : ty_ch [47, 46, 32, 33, 34, 35, 36] i j9 := ty_ch_tr f8 c9 rfl rfl
  obtain ⟨j10, r10, c10, v10⟩ := q35x (L := L) (t := t) hr d j9 (px_up l 46 7 (l 19 7)) (px_s10 L) (Nat.le_of_ble_eq_true rfl) (px_s37 L) (Nat.le_of_ble_eq_true rfl)
  have f10 : ty_ch [47, 46, 32, 33, 34, 35, 36, 37] i j10 := ty_ch_tr f9 c10 rfl rfl
  obtain ⟨j11, r11, c11, v11⟩ := q35x (L := L) (t := t) hr d j10 (px_up l 46 7 (l 19 7)) (px_s11 L) (Nat.le_of_ble_eq_true rfl) (px_s38 L) (Nat.le_of_ble_eq_true rfl)
  have f11 : ty_ch [47, 46, 32, 33, 34, 35, 36, 37, 38] i j11 := ty_ch_tr f10 c11 rfl rfl
  obtain ⟨j12, r12, c12, v12⟩ := q35x (L := L) (t := t) hr d j11 (px_up l 46 7 (l 19 7)) (px_s12 L) (Nat.le_of_ble_eq_true rfl) (px_s39 L) (Nat.le_of_ble_eq_true rfl)
  have f12 : ty_ch [47, 46, 32, 33, 34, 35, 36, 37, 38, 39] i j12 := ty_ch_tr f11 c12 rfl rfl
  obtain ⟨j13, r13, c13, v13⟩ := q35x (L := L) (t := t) hr d j12 (px_up l 46 7 (l 19 7)) (px_s13 L) (Nat.le_of_ble_eq_true rfl) (px_s40 L) (Nat.le_of_ble_eq_true rfl)
  have f13 : ty_ch [47, 46, 32, 33, 34, 35, 36, 37, 38, 39, 40] i j13 := ty_ch_tr f12 c13 rfl rfl
  obtain ⟨j4, h4⟩ : ∃ j : MI, j = (px_up (px_up (px_up (px_up (px_up (px_up (px_up j13 31 3 (j13 4 3)) 31 4 (j13 4 4)) 31 5 (j13 4 5)) 31 6 (j13 4 6)) 31 7 (j13 4 7)) 31 8 (j13 4 8)) 31 9 (j13 4 9)) := ⟨_, rfl⟩
  have c4 : ty_ch [31] j13 j4 := fun q hq => by
    have h : q ≠ 31 := fun e => hq (List.mem_singleton.mpr e)
    rw [h4, ty_up_row h, ty_up_row h, ty_up_row h, ty_up_row h, ty_up_row h, ty_up_row h, ty_up_row h]
  have v4_3 : j4 31 3 = j13 4 3 := by rw [h4]; rfl
  have v4_4 : j4 31 4 = j13 4 4 := by rw [h4]; rfl
  have v4_5 : j4 31 5 = j13 4 5 := by rw [h4]; rfl
  have v4_6 : j4 31 6 = j13 4 6 := by rw [h4]; rfl
  have v4_7 : j4 31 7 = j13 4 7 := by rw [h4]; rfl
  have v4_8 : j4 31 8 = j13 4 8 := by rw [h4]; rfl
  have v4_9 : j4 31 9 = j13 4 9 := by rw [h4]; rfl
  have f4 : ty_ch [47, 46, 32, 33, 34, 35, 36, 37, 38, 39, 40, 31] i j4 := ty_ch_tr f13 c4 rfl rfl
  obtain ⟨j14, r14, c14, v14⟩ := q35x (L := L) (t := t) hr (d + 1) j4 (px_up l 46 7 (l 19 7)) (px_s14 L) (Nat.le_of_ble_eq_true rfl) (px_s41 L) (Nat.le_of_ble_eq_true rfl)
  have f14 : ty_ch [47, 46, 32, 33, 34, 35, 36, 37, 38, 39, 40, 31, 41] i j14 := ty_ch_tr f4 c14 rfl rfl
  obtain ⟨j15, r15, c15, v15⟩ := q35x (L := L) (t := t) hr (d + 1) j14 (px_up l 46 7 (l 19 7)) (px_s15 L) (Nat.le_of_ble_eq_true rfl) (px_s42 L) (Nat.le_of_ble_eq_true rfl)
  have f15 : ty_ch [47, 46, 32, 33, 34, 35, 36, 37, 38, 39, 40, 31, 41, 42] i j15 := ty_ch_tr f14 c15 rfl rfl
  obtain ⟨j16, r16, c16, v16⟩ := q35x (L := L) (t := t) hr (d + 1) j15 (px_up l 46 7 (l 19 7)) (px_s16 L) (Nat.le_of_ble_eq_true rfl) (px_s43 L) (Nat.le_of_ble_eq_true rfl)
  have f16 : ty_ch [47, 46, 32, 33, 34, 35, 36, 37, 38, 39, 40, 31, 41, 42, 43] i j16 := ty_ch_tr f15 c16 rfl rfl
  obtain ⟨j17, r17, c17, v17⟩ := q35x (L := L) (t := t) hr (d + 1) j16 (px_up l 46 7 (l 19 7)) (px_s17 L) (Nat.le_of_ble_eq_true rfl) (px_s44 L) (Nat.le_of_ble_eq_true rfl)
  have f17 : ty_ch [47, 46, 32, 33, 34, 35, 36, 37, 38, 39, 40, 31, 41, 42, 43, 44] i j17 := ty_ch_tr f16 c17 rfl rfl
  have hbb : ∀ k : Nat, px_gs k → (j17 k 2 = 0 ∨ j17 k 2 = 1) ∧ (j17 k 8 = 0 ∨ j17 k 8 = 1) := fun k hk => by
    have hk2 : ¬ k ∈ [47, 46, 32, 33, 34, 35, 36, 37, 38, 39, 40, 31, 41, 42, 43, 44] := by
      intro h
      simp only [List.mem_cons, List.not_mem_nil, or_false] at h
      unfold px_gs at hk
      omega
    rw [f17 k hk2]
    exact hb k hk
  obtain ⟨i1, rg, cg, vg⟩ := ty_cpg_27 (L := L) (t := t) hr d (px_up l 46 7 (l 19 7)) 10 j17 0 (by omega) (by omega) hbb
  have cg' : ∀ k : Nat, ¬ (48 ≤ k ∧ k < 58) → i1 k = j17 k := fun k hk => cg k (by rw [show (0 : Int).toNat = 0 from rfl]; exact hk)
  have g17 : ty_ch [] j17 j17 := ty_ch_rf
  have g16 : ty_ch [44] j16 j17 := ty_ch_tr c17 g17 rfl rfl
  have g15 : ty_ch [43, 44] j15 j17 := ty_ch_tr c16 g16 rfl rfl
  have g14 : ty_ch [42, 43, 44] j14 j17 := ty_ch_tr c15 g15 rfl rfl
  have g4 : ty_ch [41, 42, 43, 44] j4 j17 := ty_ch_tr c14 g14 rfl rfl
  have g13 : ty_ch [31, 41, 42, 43, 44] j13 j17 := ty_ch_tr c4 g4 rfl rfl
  have g12 : ty_ch [40, 31, 41, 42, 43, 44] j12 j17 := ty_ch_tr c13 g13 rfl rfl
  have g11 : ty_ch [39, 40, 31, 41, 42, 43, 44] j11 j17 := ty_ch_tr c12 g12 rfl rfl
  have g10 : ty_ch [38, 39, 40, 31, 41, 42, 43, 44] j10 j17 := ty_ch_tr c11 g11 rfl rfl
  have g9 : ty_ch [37, 38, 39, 40, 31, 41, 42, 43, 44] j9 j17 := ty_ch_tr c10 g10 rfl rfl
  have g8 : ty_ch [36, 37, 38, 39, 40, 31, 41, 42, 43, 44] j8 j17 := ty_ch_tr c9 g9 rfl rfl
  have g7 : ty_ch [35, 36, 37, 38, 39, 40, 31, 41, 42, 43, 44] j7 j17 := ty_ch_tr c8 g8 rfl rfl
  have g6 : ty_ch [34, 35, 36, 37, 38, 39, 40, 31, 41, 42, 43, 44] j6 j17 := ty_ch_tr c7 g7 rfl rfl
  have g5 : ty_ch [33, 34, 35, 36, 37, 38, 39, 40, 31, 41, 42, 43, 44] j5 j17 := ty_ch_tr c6 g6 rfl rfl
  have g19 : ty_ch [32, 33, 34, 35, 36, 37, 38, 39, 40, 31, 41, 42, 43, 44] j19 j17 := ty_ch_tr c5 g5 rfl rfl
  have g20 : ty_ch [46, 32, 33, 34, 35, 36, 37, 38, 39, 40, 31, 41, 42, 43, 44] j20 j17 := ty_ch_tr c19 g19 rfl rfl
  have w20 : ∀ j : Int, 0 ≤ j → j < 36 → i1 47 j = i 20 j := fun j h0 h1 => by rw [cg' 47 (by decide), g20 47 (by decide), v20 j h0 h1]
  have w19_8 : i1 46 8 = i 19 8 := by rw [cg' 46 (by decide), g19 46 (by decide), v19_8, f20 19 (by decide)]
  have w5_0 : i1 32 0 = i 5 0 := by rw [cg' 32 (by decide), g5 32 (by decide), v5_0, f19 5 (by decide)]
  have w6 : ∀ j : Int, 0 ≤ j → j < 12 → i1 33 j = i 6 j := fun j h0 h1 => by rw [cg' 33 (by decide), g6 33 (by decide), v6 j h0 h1, f5 6 (by decide)]
  have w7 : ∀ j : Int, 0 ≤ j → j < 12 → i1 34 j = i 7 j := fun j h0 h1 => by rw [cg' 34 (by decide), g7 34 (by decide), v7 j h0 h1, f6 7 (by decide)]
  have w8 : ∀ j : Int, 0 ≤ j → j < 12 → i1 35 j = i 8 j := fun j h0 h1 => by rw [cg' 35 (by decide), g8 35 (by decide), v8 j h0 h1, f7 8 (by decide)]
  have w9_0 : i1 36 0 = i 9 0 := by rw [cg' 36 (by decide), g9 36 (by decide), v9_0, f8 9 (by decide)]
  have w9_1 : i1 36 1 = i 9 1 := by rw [cg' 36 (by decide), g9 36 (by decide), v9_1, f8 9 (by decide)]
  have w9_2 : i1 36 2 = i 9 2 := by rw [cg' 36 (by decide), g9 36 (by decide), v9_2, f8 9 (by decide)]
  have w10 : ∀ j : Int, 0 ≤ j → j < 10 → i1 37 j = i 10 j := fun j h0 h1 => by rw [cg' 37 (by decide), g10 37 (by decide), v10 j h0 h1, f9 10 (by decide)]
  have w11 : ∀ j : Int, 0 ≤ j → j < 10 → i1 38 j = i 11 j := fun j h0 h1 => by rw [cg' 38 (by decide), g11 38 (by decide), v11 j h0 h1, f10 11 (by decide)]
  have w12 : ∀ j : Int, 0 ≤ j → j < 10 → i1 39 j = i 12 j := fun j h0 h1 => by rw [cg' 39 (by decide), g12 39 (by decide), v12 j h0 h1, f11 12 (by decide)]
  have w13 : ∀ j : Int, 0 ≤ j → j < 500 → i1 40 j = i 13 j := fun j h0 h1 => by rw [cg' 40 (by decide), g13 40 (by decide), v13 j h0 h1, f12 13 (by decide)]
  have w4_3 : i1 31 3 = i 4 3 := by rw [cg' 31 (by decide), g4 31 (by decide), v4_3, f13 4 (by decide)]
  have w4_4 : i1 31 4 = i 4 4 := by rw [cg' 31 (by decide), g4 31 (by decide), v4_4, f13 4 (by decide)]
  have w4_5 : i1 31 5 = i 4 5 := by rw [cg' 31 (by decide), g4 31 (by decide), v4_5, f13 4 (by decide)]
  have w4_6 : i1 31 6 = i 4 6 := by rw [cg' 31 (by decide), g4 31 (by decide), v4_6, f13 4 (by decide)]
  have w4_7 : i1 31 7 = i 4 7 := by rw [cg' 31 (by decide), g4 31 (by decide), v4_7, f13 4 (by decide)]
  have w4_8 : i1 31 8 = i 4 8 := by rw [cg' 31 (by decide), g4 31 (by decide), v4_8, f13 4 (by decide)]
  have w4_9 : i1 31 9 = i 4 9 := by rw [cg' 31 (by decide), g4 31 (by decide), v4_9, f13 4 (by decide)]
  have w14 : ∀ j : Int, 0 ≤ j → j < 8 → i1 41 j = i 14 j := fun j h0 h1 => by rw [cg' 41 (by decide), g14 41 (by decide), v14 j h0 h1, f4 14 (by decide)]
  have w15 : ∀ j : Int, 0 ≤ j → j < 8 → i1 42 j = i 15 j := fun j h0 h1 => by rw [cg' 42 (by decide), g15 42 (by decide), v15 j h0 h1, f14 15 (by decide)]
  have w16 : ∀ j : Int, 0 ≤ j → j < 7 → i1 43 j = i 16 j := fun j h0 h1 => by rw [cg' 43 (by decide), g16 43 (by decide), v16 j h0 h1, f15 16 (by decide)]
  have w17 : ∀ j : Int, 0 ≤ j → j < 10 → i1 44 j = i 17 j := fun j h0 h1 => by rw [cg' 44 (by decide), g17 44 (by decide), v17 j h0 h1, f16 17 (by decide)]
  have ng : ∀ k : Nat, 21 ≤ k → k < 58 → ¬ k ∈ [47, 46, 32, 33, 34, 35, 36, 37, 38, 39, 40, 31, 41, 42, 43, 44] ∨ 27 = 0 ∨ 27 = 27 := fun _ _ _ => by omega
  refine ⟨i1, ?_, fun k hk => ?_, ⟨fun j j3 j9 => ?_, w5_0, fun j a b => ⟨w6 j a b, w7 j a b, w8 j a b⟩, ⟨w9_0, w9_1, w9_2⟩, fun j a b => ⟨w10 j a b, w11 j a b, w12 j a b⟩, w13, fun j a b => ⟨w14 j a b, w15 j a b⟩, w16, w17, w19_8, w20, fun k hk c c0 c1 => ?_⟩, fun j hj => ?_, fun k hk => ?_⟩
  · rw [e61_R31R4, b61_R31R4_0 hr, e44_R46R19, b44_R46R19_0 hr, r20, Option.bind_some, px_psh_none, b44_R46R19_11 hr, ← h19, Option.bind_some, px_psh_none, b61_R31R4_11 hr, e47_R32R5, b47_R32R5_0 hr, ← h5, r6, Option.bind_some, px_psh_none, b47_R32R5_19 hr, r7, Option.bind_some, px_psh_none, b47_R32R5_30 hr, r8, Option.bind_some, px_psh_none, b47_R32R5_41 hr, Option.bind_some, px_psh_none, b61_R31R4_22 hr, e88_R36R9, b88_R36R9_0 hr, ← h9, r10, Option.bind_some, px_psh_none, b88_R36R9_35 hr, r11, Option.bind_some, px_psh_none, b88_R36R9_46 hr, r12, Option.bind_some, px_psh_none, b88_R36R9_57 hr, r13, Option.bind_some, px_psh_none, b88_R36R9_68 hr, Option.bind_some, px_psh_none, b61_R31R4_33 hr, ← h4, r14, Option.bind_some, px_psh_none, b61_R31R4_100 hr, r15, Option.bind_some, px_psh_none, b61_R31R4_111 hr, r16, Option.bind_some, px_psh_none, b61_R31R4_122 hr, r17, Option.bind_some, px_psh_none, b61_R31R4_133 hr, rg]
  · have hk2 : ¬ k ∈ [47, 46, 32, 33, 34, 35, 36, 37, 38, 39, 40, 31, 41, 42, 43, 44] := by
      intro h
      simp only [List.mem_cons, List.not_mem_nil, or_false] at h
      omega
    rw [cg' k (by omega), f17 k hk2]
  · have hj : j = 3 ∨ j = 4 ∨ j = 5 ∨ j = 6 ∨ j = 7 ∨ j = 8 ∨ j = 9 := by omega
    rcases hj with h | h | h | h | h | h | h <;> subst h
    · exact w4_3
    · exact w4_4
    · exact w4_5
    · exact w4_6
    · exact w4_7
    · exact w4_8
    · exact w4_9
  · have h := vg k (Nat.zero_le _) hk c c0 c1
    have hk2 : ¬ 21 + k ∈ [47, 46, 32, 33, 34, 35, 36, 37, 38, 39, 40, 31, 41, 42, 43, 44] := by
      intro h
      simp only [List.mem_cons, List.not_mem_nil, or_false] at h
      omega
    exact h.trans (by rw [f17 _ hk2])
  · rw [cg' 46 (by decide), g19 46 (by decide), h19, ty_up_j hj, f20 46 (by decide)]
  · by_cases hk2 : 48 ≤ k ∧ k < 58
    · obtain ⟨k', rfl⟩ : ∃ k', k = 48 + k' := ⟨k - 48, by omega⟩
      have h2 := vg k' (Nat.zero_le _) (by omega) 2 (by omega) (by omega)
      have h8 := vg k' (Nat.zero_le _) (by omega) 8 (by omega) (by omega)
      rw [h2, h8]
      exact hbb _ (by unfold px_gs; omega)
    · rw [cg' k hk2]
      exact hbb k hk
theorem ty_cpg_0 (hr : px_hr r) (d : Nat) (l : MI) : ∀ (n : Nat) (i : MI) (g : Int), 0 ≤ g → g + n = 10 → (∀ k : Nat, px_gs k → (i k 2 = 0 ∨ i k 2 = 1) ∧ (i k 8 = 0 ∨ i k 8 = 1)) →
    ∃ i1 : MI, px_X (d + 2) 61 (135, [vR 4, vR 31, vI g], []) (px_sh L, i, l, r, t) = some (none, (px_sh L, i1, l, r, t)) ∧ (∀ k : Nat, ¬ (21 + g.toNat ≤ k ∧ k < 31) → i1 k = i k) ∧ ∀ k : Nat, g.toNat ≤ k → k < 10 → ∀ c : Int, 0 ≤ c → c < 9 → i1 (21 + k) c = i (48 + k) c
  | 0, i, g, h0, hn, hb => by
    exact ⟨i, by rw [b61_R4R31_135 hr _ _ _ _ (fun h => absurd (by omega) h), if_pos (by omega)], fun k _ => rfl, fun k k0 k1 => by omega⟩
  | n + 1, i, g, h0, hn, hb => by
    have w1 : px_w32 (g + 1) = g + 1 := ty_w (by omega)
    have et : (g + 1).toNat = g.toNat + 1 := by omega
    obtain ⟨i1, r1, c1, v1⟩ := q50 (L := L) (t := t) hr d i l (px_gs_mk21 (x := g) (by omega)) (px_gs_mk48 (x := g) (by omega)) (by omega) (hb _ (px_gs_mk48 (by omega)))
    obtain ⟨i2, r2, c2, v2⟩ := ty_cpg_0 hr d l n i1 (g + 1) (by omega) (by omega) (fun k hk => by
      by_cases hkk : k = 21 + g.toNat
      · rw [hkk, v1 2 (by omega) (by omega), v1 8 (by omega) (by omega)]
        exact hb _ (px_gs_mk48 (by omega))
      · rw [c1 k hkk]
        exact hb k hk)
    rw [et] at c2 v2
    refine ⟨i2, ?_, fun k hk => by rw [c2 k (by omega), c1 k (by omega)], fun k k0 k1 c c0 c1' => ?_⟩
    · rw [b61_R4R31_135 hr _ _ _ _ (fun _ _ => by omega), if_neg (by omega), if_neg (by omega), r1, Option.bind_some, px_psh_none, b61_R4R31_186 hr, w1, r2]
    · by_cases hk : k = g.toNat
      · rw [hk, c2 _ (by omega), v1 c c0 c1']
      · rw [v2 k (by omega) k1 c c0 c1', c1 _ (by omega)]
theorem q61_0 (hr : px_hr r) (d : Nat) (i l : MI) (hb : ∀ k : Nat, px_gs k → (i k 2 = 0 ∨ i k 2 = 1) ∧ (i k 8 = 0 ∨ i k 8 = 1)) :
    ∃ i1 : MI, px_C (d + 2) 61 [vR 4, vR 31] (px_sh L, i, l, r, t) = some (none, (px_sh L, i1, px_up l 19 7 (l 46 7), r, t)) ∧ (∀ k : Nat, ¬ (4 ≤ k ∧ k < 31) → i1 k = i k) ∧ ty_cp 27 0 i i1 ∧ (∀ j : Int, j ≠ 8 → i1 19 j = i 19 j) ∧ ∀ k : Nat, px_gs k → (i1 k 2 = 0 ∨ i1 k 2 = 1) ∧ (i1 k 8 = 0 ∨ i1 k 8 = 1) := by
  obtain ⟨j20, r20, c20, v20⟩ := q35x (L := L) (t := t) hr d i l (px_s47 L) (Nat.le_of_ble_eq_true rfl) (px_s20 L) (Nat.le_of_ble_eq_true rfl)
  have f20 := c20
  obtain ⟨j19, h19⟩ : ∃ j : MI, j = (px_up j20 19 8 (j20 46 8)) := ⟨_, rfl⟩
  have c19 : ty_ch [19] j20 j19 := fun q hq => by
    have h : q ≠ 19 := fun e => hq (List.mem_singleton.mpr e)
    rw [h19, ty_up_row h]
  have v19_8 : j19 19 8 = j20 46 8 := by rw [h19]; rfl
  have f19 : ty_ch [20, 19] i j19 := ty_ch_tr f20 c19 rfl rfl
  obtain ⟨j5, h5⟩ : ∃ j : MI, j = (px_up j19 5 0 (j19 32 0)) := ⟨_, rfl⟩
  have c5 : ty_ch [5] j19 j5 := fun q hq => by
    have h : q ≠ 5 := fun e => hq (List.mem_singleton.mpr e)
    rw [h5, ty_up_row h]
  have v5_0 : j5 5 0 = j19 32 0 := by rw [h5]; rfl
  have f5 : ty_ch [20, 19, 5] i j5 := ty_ch_tr f19 c5 rfl rfl
  obtain ⟨j6, r6, c6, v6⟩ := q35x (L := L) (t := t) hr d j5 (px_up l 19 7 (l 46 7)) (px_s33 L) (Nat.le_of_ble_eq_true rfl) (px_s6 L) (Nat.le_of_ble_eq_true rfl)
  have f6 : ty_ch [20, 19, 5, 6] i j6 := ty_ch_tr f5 c6 rfl rfl
  obtain ⟨j7, r7, c7, v7⟩ := q35x (L := L) (t := t) hr d j6 (px_up l 19 7 (l 46 7)) (px_s34 L) (Nat.le_of_ble_eq_true rfl) (px_s7 L) (Nat.le_of_ble_eq_true rfl)
  have f7 : ty_ch [20, 19, 5, 6, 7] i j7 := ty_ch_tr f6 c7 rfl rfl
  obtain ⟨j8, r8, c8, v8⟩ := q35x (L := L) (t := t) hr d j7 (px_up l 19 7 (l 46 7)) (px_s35 L) (Nat.le_of_ble_eq_true rfl) (px_s8 L) (Nat.le_of_ble_eq_true rfl)
  have f8 : ty_ch [20, 19, 5, 6, 7, 8] i j8 := ty_ch_tr f7 c8 rfl rfl
  obtain ⟨j9, h9⟩ : ∃ j : MI, j = (px_up (px_up (px_up j8 9 0 (j8 36 0)) 9 1 (j8 36 1)) 9 2 (j8 36 2)) := ⟨_, rfl⟩
  have c9 : ty_ch [9] j8 j9 := fun q hq => by
    have h : q ≠ 9 := fun e => hq (List.mem_singleton.mpr e)
    rw [h9, ty_up_row h, ty_up_row h, ty_up_row h]
  have v9_0 : j9 9 0 = j8 36 0 := by rw [h9]; rfl
  have v9_1 : j9 9 1 = j8 36 1 := by rw [h9]; rfl
  have v9_2 : j9 9 2 = j8 36 2 := by rw [h9]; rfl
  have f9 : ty_ch [20, 19, 5, 6, 7, 8, 9] i j9 := ty_ch_tr f8 c9 rfl rfl
  obtain ⟨j10, r10, c10, v10⟩ := q35x (L := L) (t := t) hr d j9 (px_up l 19 7 (l 46 7)) (px_s37 L) (Nat.le_of_ble_eq_true rfl) (px_s10 L) (Nat.le_of_ble_eq_true rfl)
  have f10 : ty_ch [20, 19, 5, 6, 7, 8, 9, 10] i j10 := ty_ch_tr f9 c10 rfl rfl
  obtain ⟨j11, r11, c11, v11⟩ := q35x (L := L) (t := t) hr d j10 (px_up l 19 7 (l 46 7)) (px_s38 L) (Nat.le_of_ble_eq_true rfl) (px_s11 L) (Nat.le_of_ble_eq_true rfl)
  have f11 : ty_ch [20, 19, 5, 6, 7, 8, 9, 10, 11] i j11 := ty_ch_tr f10 c11 rfl rfl
  obtain ⟨j12, r12, c12, v12⟩ := q35x (L := L) (t := t) hr d j11 (px_up l 19 7 (l 46 7)) (px_s39 L) (Nat.le_of_ble_eq_true rfl) (px_s12 L) (Nat.le_of_ble_eq_true rfl)
  have f12 : ty_ch [20, 19, 5, 6, 7, 8, 9, 10, 11, 12] i j12 := ty_ch_tr f11 c12 rfl rfl
  obtain ⟨j13, r13, c13, v13⟩ := q35x (L := L) (t := t) hr d j12 (px_up l 19 7 (l 46 7)) (px_s40 L) (Nat.le_of_ble_eq_true rfl) (px_s13 L) (Nat.le_of_ble_eq_true rfl)
  have f13 : ty_ch [20, 19, 5, 6, 7, 8, 9, 10, 11, 12, 13] i j13 := ty_ch_tr f12 c13 rfl rfl
  obtain ⟨j4, h4⟩ : ∃ j : MI, j = (px_up (px_up (px_up (px_up (px_up (px_up (px_up j13 4 3 (j13 31 3)) 4 4 (j13 31 4)) 4 5 (j13 31 5)) 4 6 (j13 31 6)) 4 7 (j13 31 7)) 4 8 (j13 31 8)) 4 9 (j13 31 9)) := ⟨_, rfl⟩
  have c4 : ty_ch [4] j13 j4 := fun q hq => by
    have h : q ≠ 4 := fun e => hq (List.mem_singleton.mpr e)
    rw [h4, ty_up_row h, ty_up_row h, ty_up_row h, ty_up_row h, ty_up_row h, ty_up_row h, ty_up_row h]
  have v4_3 : j4 4 3 = j13 31 3 := by rw [h4]; rfl
  have v4_4 : j4 4 4 = j13 31 4 := by rw [h4]; rfl
  have v4_5 : j4 4 5 = j13 31 5 := by rw [h4]; rfl
  have v4_6 : j4 4 6 = j13 31 6 := by rw [h4]; rfl
  have v4_7 : j4 4 7 = j13 31 7 := by rw [h4]; rfl
  have v4_8 : j4 4 8 = j13 31 8 := by rw [h4]; rfl
  have v4_9 : j4 4 9 = j13 31 9 := by rw [h4]; rfl
  have f4 : ty_ch [20, 19, 5, 6, 7, 8, 9, 10, 11, 12, 13, 4] i j4 := ty_ch_tr f13 c4 rfl rfl
  obtain ⟨j14, r14, c14, v14⟩ := q35x (L := L) (t := t) hr (d + 1) j4 (px_up l 19 7 (l 46 7)) (px_s41 L) (Nat.le_of_ble_eq_true rfl) (px_s14 L) (Nat.le_of_ble_eq_true rfl)
  have f14 : ty_ch [20, 19, 5, 6, 7, 8, 9, 10, 11, 12, 13, 4, 14] i j14 := ty_ch_tr f4 c14 rfl rfl
  obtain ⟨j15, r15, c15, v15⟩ := q35x (L := L) (t := t) hr (d + 1) j14 (px_up l 19 7 (l 46 7)) (px_s42 L) (Nat.le_of_ble_eq_true rfl) (px_s15 L) (Nat.le_of_ble_eq_true rfl)
  have f15 : ty_ch [20, 19, 5, 6, 7, 8, 9, 10, 11, 12, 13, 4, 14, 15] i j15 := ty_ch_tr f14 c15 rfl rfl
  obtain ⟨j16, r16, c16, v16⟩ := q35x (L := L) (t := t) hr (d + 1) j15 (px_up l 19 7 (l 46 7)) (px_s43 L) (Nat.le_of_ble_eq_true rfl) (px_s16 L) (Nat.le_of_ble_eq_true rfl)
  have f16 : ty_ch [20, 19, 5, 6, 7, 8, 9, 10, 11, 12, 13, 4, 14, 15, 16] i j16 := ty_ch_tr f15 c16 rfl rfl
  obtain ⟨j17, r17, c17, v17⟩ := q35x (L := L) (t := t) hr (d + 1) j16 (px_up l 19 7 (l 46 7)) (px_s44 L) (Nat.le_of_ble_eq_true rfl) (px_s17 L) (Nat.le_of_ble_eq_true rfl)
  have f17 : ty_ch [20, 19, 5, 6, 7, 8, 9, 10, 11, 12, 13, 4, 14, 15, 16, 17] i j17 := ty_ch_tr f16 c17 rfl rfl
  have hbb : ∀ k : Nat, px_gs k → (j17 k 2 = 0 ∨ j17 k 2 = 1) ∧ (j17 k 8 = 0 ∨ j17 k 8 = 1) := fun k hk => by
    have hk2 : ¬ k ∈ [20, 19, 5, 6, 7, 8, 9, 10, 11, 12, 13, 4, 14, 15, 16, 17] := by
      intro h
      simp only [List.mem_cons, List.not_mem_nil, or_false] at h
      unfold px_gs at hk
      omega
    rw [f17 k hk2]
    exact hb k hk
  obtain ⟨i1, rg, cg, vg⟩ := ty_cpg_0 (L := L) (t := t) hr d (px_up l 19 7 (l 46 7)) 10 j17 0 (by omega) (by omega) hbb
  have cg' : ∀ k : Nat, ¬ (21 ≤ k ∧ k < 31) → i1 k = j17 k := fun k hk => cg k (by rw [show (0 : Int).toNat = 0 from rfl]; exact hk)
  have g17 : ty_ch [] j17 j17 := ty_ch_rf
  have g16 : ty_ch [17] j16 j17 := ty_ch_tr c17 g17 rfl rfl
  have g15 : ty_ch [16, 17] j15 j17 := ty_ch_tr c16 g16 rfl rfl
  have g14 : ty_ch [15, 16, 17] j14 j17 := ty_ch_tr c15 g15 rfl rfl
  have g4 : ty_ch [14, 15, 16, 17] j4 j17 := ty_ch_tr c14 g14 rfl rfl
  have g13 : ty_ch [4, 14, 15, 16, 17] j13 j17 := ty_ch_tr c4 g4 rfl rfl
  have g12 : ty_ch [13, 4, 14, 15, 16, 17] j12 j17 := ty_ch_tr c13 g13 rfl rfl
  have g11 : ty_ch [12, 13, 4, 14, 15, 16, 17] j11 j17 := ty_ch_tr c12 g12 rfl rfl
  have g10 : ty_ch [11, 12, 13, 4, 14, 15, 16, 17] j10 j17 := ty_ch_tr c11 g11 rfl rfl
  have g9 : ty_ch [10, 11, 12, 13, 4, 14, 15, 16, 17] j9 j17 := ty_ch_tr c10 g10 rfl rfl
  have g8 : ty_ch [9, 10, 11, 12, 13, 4, 14, 15, 16, 17] j8 j17 := ty_ch_tr c9 g9 rfl rfl
  have g7 : ty_ch [8, 9, 10, 11, 12, 13, 4, 14, 15, 16, 17] j7 j17 := ty_ch_tr c8 g8 rfl rfl
  have g6 : ty_ch [7, 8, 9, 10, 11, 12, 13, 4, 14, 15, 16, 17] j6 j17 := ty_ch_tr c7 g7 rfl rfl
  have g5 : ty_ch [6, 7, 8, 9, 10, 11, 12, 13, 4, 14, 15, 16, 17] j5 j17 := ty_ch_tr c6 g6 rfl rfl
  have g19 : ty_ch [5, 6, 7, 8, 9, 10, 11, 12, 13, 4, 14, 15, 16, 17] j19 j17 := ty_ch_tr c5 g5 rfl rfl
  have g20 : ty_ch [19, 5, 6, 7, 8, 9, 10, 11, 12, 13, 4, 14, 15, 16, 17] j20 j17 := ty_ch_tr c19 g19 rfl rfl
  have w20 : ∀ j : Int, 0 ≤ j → j < 36 → i1 20 j = i 47 j := fun j h0 h1 => by rw [cg' 20 (by decide), g20 20 (by decide), v20 j h0 h1]
  have w19_8 : i1 19 8 = i 46 8 := by rw [cg' 19 (by decide), g19 19 (by decide), v19_8, f20 46 (by decide)]
  have w5_0 : i1 5 0 = i 32 0 := by rw [cg' 5 (by decide), g5 5 (by decide), v5_0, f19 32 (by decide)]
  have w6 : ∀ j : Int, 0 ≤ j → j < 12 → i1 6 j = i 33 j := fun j h0 h1 => by rw [cg' 6 (by decide), g6 6 (by decide), v6 j h0 h1, f5 33 (by decide)]
  have w7 : ∀ j : Int, 0 ≤ j → j < 12 → i1 7 j = i 34 j := fun j h0 h1 => by rw [cg' 7 (by decide), g7 7 (by decide), v7 j h0 h1, f6 34 (by decide)]
  have w8 : ∀ j : Int, 0 ≤ j → j < 12 → i1 8 j = i 35 j := fun j h0 h1 => by rw [cg' 8 (by decide), g8 8 (by decide), v8 j h0 h1, f7 35 (by decide)]
  have w9_0 : i1 9 0 = i 36 0 := by rw [cg' 9 (by decide), g9 9 (by decide), v9_0, f8 36 (by decide)]
  have w9_1 : i1 9 1 = i 36 1 := by rw [cg' 9 (by decide), g9 9 (by decide), v9_1, f8 36 (by decide)]
  have w9_2 : i1 9 2 = i 36 2 := by rw [cg' 9 (by decide), g9 9 (by decide), v9_2, f8 36 (by decide)]
  have w10 : ∀ j : Int, 0 ≤ j → j < 10 → i1 10 j = i 37 j := fun j h0 h1 => by rw [cg' 10 (by decide), g10 10 (by decide), v10 j h0 h1, f9 37 (by decide)]
  have w11 : ∀ j : Int, 0 ≤ j → j < 10 → i1 11 j = i 38 j := fun j h0 h1 => by rw [cg' 11 (by decide), g11 11 (by decide), v11 j h0 h1, f10 38 (by decide)]
  have w12 : ∀ j : Int, 0 ≤ j → j < 10 → i1 12 j = i 39 j := fun j h0 h1 => by rw [cg' 12 (by decide), g12 12 (by decide), v12 j h0 h1, f11 39 (by decide)]
  have w13 : ∀ j : Int, 0 ≤ j → j < 500 → i1 13 j = i 40 j := fun j h0 h1 => by rw [cg' 13 (by decide), g13 13 (by decide), v13 j h0 h1, f12 40 (by decide)]
  have w4_3 : i1 4 3 = i 31 3 := by rw [cg' 4 (by decide), g4 4 (by decide), v4_3, f13 31 (by decide)]
  have w4_4 : i1 4 4 = i 31 4 := by rw [cg' 4 (by decide), g4 4 (by decide), v4_4, f13 31 (by decide)]
  have w4_5 : i1 4 5 = i 31 5 := by rw [cg' 4 (by decide), g4 4 (by decide), v4_5, f13 31 (by decide)]
  have w4_6 : i1 4 6 = i 31 6 := by rw [cg' 4 (by decide), g4 4 (by decide), v4_6, f13 31 (by decide)]
  have w4_7 : i1 4 7 = i 31 7 := by rw [cg' 4 (by decide), g4 4 (by decide), v4_7, f13 31 (by decide)]
  have w4_8 : i1 4 8 = i 31 8 := by rw [cg' 4 (by decide), g4 4 (by decide), v4_8, f13 31 (by decide)]
  have w4_9 : i1 4 9 = i 31 9 := by rw [cg' 4 (by decide), g4 4 (by decide), v4_9, f13 31 (by decide)]
  have w14 : ∀ j : Int, 0 ≤ j → j < 8 → i1 14 j = i 41 j := fun j h0 h1 => by rw [cg' 14 (by decide), g14 14 (by decide), v14 j h0 h1, f4 41 (by decide)]
  have w15 : ∀ j : Int, 0 ≤ j → j < 8 → i1 15 j = i 42 j := fun j h0 h1 => by rw [cg' 15 (by decide), g15 15 (by decide), v15 j h0 h1, f14 42 (by decide)]
  have w16 : ∀ j : Int, 0 ≤ j → j < 7 → i1 16 j = i 43 j := fun j h0 h1 => by rw [cg' 16 (by decide), g16 16 (by decide), v16 j h0 h1, f15 43 (by decide)]
  have w17 : ∀ j : Int, 0 ≤ j → j < 10 → i1 17 j = i 44 j := fun j h0 h1 => by rw [cg' 17 (by decide), g17 17 (by decide), v17 j h0 h1, f16 44 (by decide)]
  have ng : ∀ k : Nat, 21 ≤ k → k < 58 → ¬ k ∈ [20, 19, 5, 6, 7, 8, 9, 10, 11, 12, 13, 4, 14, 15, 16, 17] ∨ 0 = 0 ∨ 0 = 27 := fun _ _ _ => by omega
  refine ⟨i1, ?_, fun k hk => ?_, ⟨fun j j3 j9 => ?_, w5_0, fun j a b => ⟨w6 j a b, w7 j a b, w8 j a b⟩, ⟨w9_0, w9_1, w9_2⟩, fun j a b => ⟨w10 j a b, w11 j a b, w12 j a b⟩, w13, fun j a b => ⟨w14 j a b, w15 j a b⟩, w16, w17, w19_8, w20, fun k hk c c0 c1 => ?_⟩, fun j hj => ?_, fun k hk => ?_⟩
  · rw [e61_R4R31, b61_R4R31_0 hr, e44_R19R46, b44_R19R46_0 hr, r20, Option.bind_some, px_psh_none, b44_R19R46_11 hr, ← h19, Option.bind_some, px_psh_none, b61_R4R31_11 hr, e47_R5R32, b47_R5R32_0 hr, ← h5, r6, Option.bind_some, px_psh_none, b47_R5R32_19 hr, r7, Option.bind_some, px_psh_none, b47_R5R32_30 hr, r8, Option.bind_some, px_psh_none, b47_R5R32_41 hr, Option.bind_some, px_psh_none, b61_R4R31_22 hr, e88_R9R36, b88_R9R36_0 hr, ← h9, r10, Option.bind_some, px_psh_none, b88_R9R36_35 hr, r11, Option.bind_some, px_psh_none, b88_R9R36_46 hr, r12, Option.bind_some, px_psh_none, b88_R9R36_57 hr, r13, Option.bind_some, px_psh_none, b88_R9R36_68 hr, Option.bind_some, px_psh_none, b61_R4R31_33 hr, ← h4, r14, Option.bind_some, px_psh_none, b61_R4R31_100 hr, r15, Option.bind_some, px_psh_none, b61_R4R31_111 hr, r16, Option.bind_some, px_psh_none, b61_R4R31_122 hr, r17, Option.bind_some, px_psh_none, b61_R4R31_133 hr, rg]
  · have hk2 : ¬ k ∈ [20, 19, 5, 6, 7, 8, 9, 10, 11, 12, 13, 4, 14, 15, 16, 17] := by
      intro h
      simp only [List.mem_cons, List.not_mem_nil, or_false] at h
      omega
    rw [cg' k (by omega), f17 k hk2]
  · have hj : j = 3 ∨ j = 4 ∨ j = 5 ∨ j = 6 ∨ j = 7 ∨ j = 8 ∨ j = 9 := by omega
    rcases hj with h | h | h | h | h | h | h <;> subst h
    · exact w4_3
    · exact w4_4
    · exact w4_5
    · exact w4_6
    · exact w4_7
    · exact w4_8
    · exact w4_9
  · have h := vg k (Nat.zero_le _) hk c c0 c1
    have hk2 : ¬ 48 + k ∈ [20, 19, 5, 6, 7, 8, 9, 10, 11, 12, 13, 4, 14, 15, 16, 17] := by
      intro h
      simp only [List.mem_cons, List.not_mem_nil, or_false] at h
      omega
    exact h.trans (by rw [f17 _ hk2])
  · rw [cg' 19 (by decide), g19 19 (by decide), h19, ty_up_j hj, f20 19 (by decide)]
  · by_cases hk2 : 21 ≤ k ∧ k < 31
    · obtain ⟨k', rfl⟩ : ∃ k', k = 21 + k' := ⟨k - 21, by omega⟩
      have h2 := vg k' (Nat.zero_le _) (by omega) 2 (by omega) (by omega)
      have h8 := vg k' (Nat.zero_le _) (by omega) 8 (by omega) (by omega)
      rw [h2, h8]
      exact hbb _ (by unfold px_gs; omega)
    · rw [cg' k hk2]
      exact hbb k hk
/-- copies of the reference -/
theorem ty_cpo (hr : px_hr r) (d : Nat) (l : MI) : ∀ (n : Nat) (i : MI) (k : Int), 0 ≤ k → k + n = 820 → ∃ i1 : MI, px_X d 142 (2, [vR 123, vI 1, vI k], []) (px_sh L, i, l, r, t) = some (none, (px_sh L, i1, l, r, t)) ∧ ty_ch [125] i i1 ∧ ∀ x : Int, i1 125 x = if k ≤ x ∧ x < 820 then i 124 x else i 125 x
  | 0, i, k, h0, hn => by
    refine ⟨i, by rw [b142_2 hr _ _ _ _ _ (fun h => absurd (by omega) h) (fun h => absurd (by omega) h), if_pos (by omega)], ty_ch_rf, fun x => by rw [if_neg (by omega)]⟩
  | n + 1, i, k, h0, hn => by
    have w1 : px_w32 (k + 1) = k + 1 := ty_w (by omega)
    obtain ⟨i1, r1, c1, v1⟩ := ty_cpo hr d l n (px_up i 125 k (i 124 k)) (k + 1) (by omega) (by omega)
    refine ⟨i1, ?_, ty_ch_tr (ty_ch_up (S := [125]) (List.mem_singleton.mpr rfl)) c1 rfl rfl, fun x => ?_⟩
    · rw [b142_2 hr _ _ _ _ _ (fun _ h => by omega) (fun _ _ => by omega), if_neg (by omega), if_neg (by omega), w1, r1]
    · rw [v1 x]
      by_cases hx : x = k
      · rw [if_neg (by omega), hx, ty_up_eq, if_pos (by omega)]
      · by_cases h2 : k + 1 ≤ x ∧ x < 820
        · rw [if_pos h2, ty_up_j hx, if_pos (by omega)]
        · rw [if_neg h2, ty_up_j hx, if_neg (by omega)]
theorem ty_cpi (hr : px_hr r) (d : Nat) (l : MI) : ∀ (n : Nat) (i : MI) (k : Int), 0 ≤ k → k + n = 820 → ∃ i1 : MI, px_X d 142 (2, [vR 123, vI 0, vI k], []) (px_sh L, i, l, r, t) = some (none, (px_sh L, i1, l, r, t)) ∧ ty_ch [124] i i1 ∧ ∀ x : Int, i1 124 x = if k ≤ x ∧ x < 820 then i 125 x else i 124 x
  | 0, i, k, h0, hn => by
    refine ⟨i, by rw [b142_2 hr _ _ _ _ _ (fun h => absurd (by omega) h) (fun h => absurd (by omega) h), if_pos (by omega)], ty_ch_rf, fun x => by rw [if_neg (by omega)]⟩
  | n + 1, i, k, h0, hn => by
    have w1 : px_w32 (k + 1) = k + 1 := ty_w (by omega)
    obtain ⟨i1, r1, c1, v1⟩ := ty_cpi hr d l n (px_up i 124 k (i 125 k)) (k + 1) (by omega) (by omega)
    refine ⟨i1, ?_, ty_ch_tr (ty_ch_up (S := [124]) (List.mem_singleton.mpr rfl)) c1 rfl rfl, fun x => ?_⟩
    · rw [b142_2 hr _ _ _ _ _ (fun _ _ => by omega) (fun _ h => by omega), if_neg (by omega), if_pos rfl, w1, r1]
    · rw [v1 x]
      by_cases hx : x = k
      · rw [if_neg (by omega), hx, ty_up_eq, if_pos (by omega)]
      · by_cases h2 : k + 1 ≤ x ∧ x < 820
        · rw [if_pos h2, ty_up_j hx, if_pos (by omega)]
        · rw [if_neg h2, ty_up_j hx, if_neg (by omega)]
end TYC
theorem ok_image : ty_ok ty_CR 27 233 [] := by
  intro L t r hr n d i l hn hc
  have hD := hc.1
  have hdim := ty_D_2 hD
  have e46 : i 4 6 = i 124 4 := hc.2.1.2.1.2.2.2.1.1
  have b5 := hc.2.1.2.1.2.2.2.2.1
  have b6 : i 4 8 = i 124 6 ∧ -1 ≤ i 124 6 ∧ i 124 6 < i 124 5 := hc.2.1.2.1.2.2.2.2.2.1
  obtain ⟨i1, r1, c1, p1, k1, g1⟩ := q61_27 (L := L) (t := t) hr (d + 37) i l hD.2.2.2.2.2.2.2.2.2
  obtain ⟨i2, r2, c2, v2⟩ := ty_cpo (L := L) (t := t) hr (d + 39) (px_up l 46 7 (l 19 7)) 820 i1 0 (by omega) (by omega)
  have hR : ∀ k, ¬ (31 ≤ k ∧ k < 58) → k ≠ 125 → i2 k = i k := fun k h1 h2 => by
    rw [c2 k (fun h => h2 (List.mem_singleton.mp h)), c1 k h1]
  have t125 : ∀ x : Int, 0 ≤ x → x < 820 → i2 125 x = i 124 x := fun x x0 x1 => by
    rw [v2 x, if_pos ⟨x0, x1⟩, c1 124 (by omega)]
  have cK : ∀ k, 31 ≤ k → k < 58 → i2 k = i1 k := fun k h1 h2 => c2 k (fun h => by have := List.mem_singleton.mp h; omega)
  have pp : ty_cp 0 27 i i2 := by
    obtain ⟨k4, k5, k6, k9, k10, k13, k14, k16, k17, k19, k20, k21⟩ := p1
    refine ⟨fun j a b => by rw [cK _ (by omega) (by omega), k4 j a b], by rw [cK _ (by omega) (by omega), k5], fun j a b => ?_, ?_, fun j a b => ?_, fun j a b => by rw [cK _ (by omega) (by omega), k13 j a b], fun j a b => ?_, fun j a b => by rw [cK _ (by omega) (by omega), k16 j a b], fun j a b => by rw [cK _ (by omega) (by omega), k17 j a b], by rw [cK _ (by omega) (by omega), k19], fun j a b => by rw [cK _ (by omega) (by omega), k20 j a b], fun k hk c a b => by rw [cK _ (by omega) (by omega), k21 k hk c a b]⟩
    · rw [cK _ (by omega) (by omega), cK _ (by omega) (by omega), cK _ (by omega) (by omega)]
      exact k6 j a b
    · rw [cK _ (by omega) (by omega)]
      exact k9
    · rw [cK _ (by omega) (by omega), cK _ (by omega) (by omega), cK _ (by omega) (by omega)]
      exact k10 j a b
    · rw [cK _ (by omega) (by omega), cK _ (by omega) (by omega)]
      exact k14 j a b
  refine ⟨i 124 4, i1, px_up l 46 7 (l 19 7), i2, px_up l 46 7 (l 19 7), ?_, ?_, ⟨?_, ?_, ?_, ?_, ?_⟩, c1 0 (by omega), hR 0 (by omega) (by omega)⟩
  · show px_C (d + 39 + 1) 27 [vR 3] _ = _
    rw [e27, b27_0 hr, r1, Option.bind_some, px_psh_none, b27_11 hr, c1 4 (by omega), e46]
  · show px_C (d + 39 + 1) 233 [vR 123] _ = _
    rw [e233, b233_0 hr, e142, b142_0 hr, r2, Option.bind_some, px_psh_none, b233_5 hr, hR 124 (by omega) (by omega)]
  · have q := hR 123 (by omega) (by omega)
    have q19 := hR 19 (by omega) (by omega)
    refine ty_D_c (i := i) (l := l) (by rw [q]) (by rw [q]) (by rw [q]) (by rw [q19]) (by rw [q19]) (by rw [q19]) rfl rfl rfl (fun k hk => ?_) hD
    have hk2 : k ≠ 125 := by
      unfold px_gs at hk
      omega
    rw [c2 k (fun h => hk2 (List.mem_singleton.mp h))]
    have := g1 k hk
    exact ⟨Or.inr this.1, Or.inr this.2⟩
  · exact ty_H_same 0 124 (i := i) (l := l) (fun k k0 k1 => hR k (by omega) (by omega)) (hR _ (by omega) (by omega)) (by rw [hR _ (by omega) (by omega)]) rfl (by omega) hc.2.1
  · exact ty_cp_H pp rfl (by rw [hR _ (by omega) (by omega)]) (by omega) t125 hc.2.1
  · exact ty_T_c (by rw [hR _ (by omega) (by omega)]) (by rw [hR _ (by omega) (by omega)]) (by rw [hR _ (by omega) (by omega)]) (by rw [hR _ (by omega) (by omega)]) (by rw [hR _ (by omega) (by omega)]) (by rw [hR _ (by omega) (by omega)]) (by rw [hR _ (by omega) (by omega)]) (hR _ (by omega) (by omega)) (hR _ (by omega) (by omega)) hc.2.2.2.1
  · have hY := hc.2.2.2.2
    obtain ⟨y1, y2, y3, y4, y5⟩ := hY
    refine ⟨fun q hq => ?_, ?_, fun m m0 m1 => ?_, ?_, ?_⟩
    · rw [hR 124 (by omega) (by omega)] at hq
      exact ty_tx_c (fun k k0 k1 => hR k (by omega) (by omega)) (hR _ (by omega) (by omega)) (hR _ (by omega) (by omega)) (hR _ (by omega) (by omega)) (hR _ (by omega) (by omega)) (hR _ (by omega) (by omega)) (y1 q hq)
    · rw [t125 5 (by omega) (by omega), hR 124 (by omega) (by omega)]
      exact Int.le_refl _
    · rw [hR 70 (by omega) (by omega), ty_lev_c (by rw [hR 4 (by omega) (by omega)]) (by rw [hR 4 (by omega) (by omega)]) (by rw [hR 4 (by omega) (by omega)]) (fun k k0 k1 => hR k (by omega) (by omega))]
      exact y3 m m0 m1
    · rw [hR 103 (by omega) (by omega)]
      omega
    · rw [hR 103 (by omega) (by omega), hR 108 (by omega) (by omega)]
      exact y5
theorem ok_back : ty_ok ty_CR 28 234 [] := by
  intro L t r hr n d i l hn hc
  have hD := hc.1
  have hdim := ty_D_2 hD
  have h27 := hc.2.2.1
  have b4 : i (4 + 27) 6 = i 125 4 := h27.2.1.2.2.2.1.1
  have b5 : i (4 + 27) 7 = i 125 5 ∧ 0 ≤ i 125 5 ∧ i 125 5 ≤ 6 := h27.2.1.2.2.2.2.1
  obtain ⟨i1, r1, c1, p1, k1, g1⟩ := q61_0 (L := L) (t := t) hr (d + 37) i l hD.2.2.2.2.2.2.2.2.2
  obtain ⟨j, hj⟩ : ∃ j : MI, j = px_un i1 70 (fun j => if 0 ≤ j ∧ j < 1440 then -1 else i1 70 j) := ⟨_, rfl⟩
  have cj : ∀ k, k ≠ 70 → j k = i1 k := fun k hk => by rw [hj, ty_un_row hk]
  obtain ⟨i2, r2, c2, v2⟩ := ty_cpi (L := L) (t := t) hr (d + 39) (px_up l 19 7 (l 46 7)) 820 j 0 (by omega) (by omega)
  have hR : ∀ k, ¬ (4 ≤ k ∧ k < 31) → k ≠ 124 → k ≠ 70 → i2 k = i k := fun k h1 h2 h3 => by
    rw [c2 k (fun h => h2 (List.mem_singleton.mp h)), cj k h3, c1 k h1]
  have t124 : ∀ x : Int, 0 ≤ x → x < 820 → i2 124 x = i 125 x := fun x x0 x1 => by
    rw [v2 x, if_pos ⟨x0, x1⟩, cj 125 (by omega), c1 125 (by omega)]
  have cK : ∀ k, 4 ≤ k → k < 31 → i2 k = i1 k := fun k h1 h2 => by
    rw [c2 k (fun h => by have := List.mem_singleton.mp h; omega), cj k (by omega)]
  have pp : ty_cp 27 0 i i2 := by
    obtain ⟨k4, k5, k6, k9, k10, k13, k14, k16, k17, k19, k20, k21⟩ := p1
    refine ⟨fun j a b => by rw [cK _ (by omega) (by omega), k4 j a b], by rw [cK _ (by omega) (by omega), k5], fun j a b => ?_, ?_, fun j a b => ?_, fun j a b => by rw [cK _ (by omega) (by omega), k13 j a b], fun j a b => ?_, fun j a b => by rw [cK _ (by omega) (by omega), k16 j a b], fun j a b => by rw [cK _ (by omega) (by omega), k17 j a b], by rw [cK _ (by omega) (by omega), k19], fun j a b => by rw [cK _ (by omega) (by omega), k20 j a b], fun k hk c a b => by rw [cK _ (by omega) (by omega), k21 k hk c a b]⟩
    · rw [cK _ (by omega) (by omega), cK _ (by omega) (by omega), cK _ (by omega) (by omega)]
      exact k6 j a b
    · rw [cK _ (by omega) (by omega)]
      exact k9
    · rw [cK _ (by omega) (by omega), cK _ (by omega) (by omega), cK _ (by omega) (by omega)]
      exact k10 j a b
    · rw [cK _ (by omega) (by omega), cK _ (by omega) (by omega)]
      exact k14 j a b
  have e6 : i1 4 6 = i 125 4 := by
    have := p1.1 6 (by omega) (by omega)
    exact this.trans b4
  refine ⟨i 125 4, j, px_up l 19 7 (l 46 7), i2, px_up l 19 7 (l 46 7), ?_, ?_, ⟨?_, ?_, ?_, ?_, ?_⟩, by rw [cj 0 (by omega), c1 0 (by omega)], hR 0 (by omega) (by omega) (by omega)⟩
  · show px_C (d + 38 + 1 + 1) 28 [vR 3] _ = _
    rw [e28, b28_0 hr, r1, Option.bind_some, px_psh_none, b28_11 hr, q63 hr, ← hj, Option.bind_some, px_psh_none, b28_18 hr, cj 4 (by omega), e6]
  · show px_C (d + 39 + 1) 234 [vR 123] _ = _
    rw [e234, b234_0 hr, e142, b142_0 hr, r2, Option.bind_some, px_psh_none, b234_5 hr, t124 4 (by omega) (by omega)]
  · have q := hR 123 (by omega) (by omega) (by omega)
    have q19 : ∀ x : Int, x ≠ 8 → i2 19 x = i 19 x := fun x hx => by rw [cK 19 (by omega) (by omega), k1 x hx]
    refine ty_D_c (i := i) (l := l) (by rw [q]) (by rw [q]) (by rw [q]) (q19 _ (by omega)) (q19 _ (by omega)) (q19 _ (by omega)) rfl rfl rfl (fun k hk => ?_) hD
    have hk2 : k ≠ 124 ∧ k ≠ 70 := by
      unfold px_gs at hk
      omega
    rw [c2 k (fun h => hk2.1 (List.mem_singleton.mp h)), cj k hk2.2]
    have := g1 k hk
    exact ⟨Or.inr this.1, Or.inr this.2⟩
  · exact ty_cp_H pp rfl (by rw [hR _ (by omega) (by omega) (by omega)]) (by omega) t124 h27
  · exact ty_H_same 27 125 (i := i) (l := l) (fun k k0 k1 => hR k (by omega) (by omega) (by omega)) (hR _ (by omega) (by omega) (by omega)) (by rw [hR _ (by omega) (by omega) (by omega)]) rfl (by omega) h27
  · exact ty_T_c (by rw [hR _ (by omega) (by omega) (by omega)]) (by rw [hR _ (by omega) (by omega) (by omega)]) (by rw [hR _ (by omega) (by omega) (by omega)]) (by rw [hR _ (by omega) (by omega) (by omega)]) (by rw [hR _ (by omega) (by omega) (by omega)]) (by rw [hR _ (by omega) (by omega) (by omega)]) (by rw [hR _ (by omega) (by omega) (by omega)]) (hR _ (by omega) (by omega) (by omega)) (hR _ (by omega) (by omega) (by omega)) hc.2.2.2.1
  · have hY := hc.2.2.2.2
    obtain ⟨y1, y2, y3, y4, y5⟩ := hY
    refine ⟨fun q hq => ?_, ?_, fun m m0 m1 => Or.inl ?_, ?_, ?_⟩
    · rw [t124 5 (by omega) (by omega)] at hq
      exact ty_tx_c (fun k k0 k1 => hR k (by omega) (by omega) (by omega)) (hR _ (by omega) (by omega) (by omega)) (hR _ (by omega) (by omega) (by omega)) (hR _ (by omega) (by omega) (by omega)) (hR _ (by omega) (by omega) (by omega)) (hR _ (by omega) (by omega) (by omega)) (y1 q (by omega))
    · rw [t124 5 (by omega) (by omega), hR 125 (by omega) (by omega) (by omega)]
      exact Int.le_refl _
    · rw [c2 70 (by decide), hj, ty_un_eq, if_pos ⟨m0, m1⟩]
    · rw [hR 103 (by omega) (by omega) (by omega)]
      omega
    · rw [hR 103 (by omega) (by omega) (by omega), hR 108 (by omega) (by omega) (by omega)]
      exact y5
