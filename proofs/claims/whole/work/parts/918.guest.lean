/-! guest. -/
section TYGU
variable {L t : Nat} {r : MR}
/-- what is asked of a guest's numbers -/
abbrev ty_gud (a1 a2 a4 a5 a6 a7 : Int) : Prop := (0 ≤ a1 ∧ a1 ≤ 9) ∧ (0 ≤ a2 ∧ a2 ≤ 30) ∧ (0 ≤ a4 ∧ a4 ≤ 9) ∧ (0 ≤ a5 ∧ a5 ≤ 9) ∧ (1 ≤ a6 ∧ a6 ≤ 20) ∧ (0 ≤ a7 ∧ a7 ≤ 30)
theorem ty_gud_c (hr : px_hr r) (d : Nat) (i l : MI) (a1 a2 b a4 a5 a6 a7 : Int) : px_X (d + 1) 5 (0, [vR 3, vI a1, vI a2, vI b, vI a4, vI a5, vI a6, vI a7, vJ, vJ], []) (px_sh L, i, l, r, t) = px_X (d + 1) 5 (69, [vR 3, vI a1, vI a2, vI b, vI a4, vI a5, vI a6, vI a7, vJ, vJ], [vI (px_bi (ty_gud a1 a2 a4 a5 a6 a7))]) (px_sh L, i, l, r, t) := by
  rw [b5_0 hr, q30 hr, Option.bind_some, px_psh_some, b5_7 hr]
  by_cases h0 : 0 ≤ a1 ∧ a1 ≤ 9
  · rw [px_bi_T h0, if_neg (by omega), q30 hr, Option.bind_some, px_psh_some, b5_17 hr]
    by_cases h1 : 0 ≤ a2 ∧ a2 ≤ 30
    · rw [px_bi_T h1, if_neg (by omega), q30 hr, Option.bind_some, px_psh_some, b5_28 hr]
      by_cases h2 : 0 ≤ a4 ∧ a4 ≤ 9
      · rw [px_bi_T h2, if_neg (by omega), q30 hr, Option.bind_some, px_psh_some, b5_39 hr]
        by_cases h3 : 0 ≤ a5 ∧ a5 ≤ 9
        · rw [px_bi_T h3, if_neg (by omega), q30 hr, Option.bind_some, px_psh_some, b5_50 hr]
          by_cases h4 : 1 ≤ a6 ∧ a6 ≤ 20
          · rw [px_bi_T h4, if_neg (by omega), q30 hr, Option.bind_some, px_psh_some, b5_61 hr]
            by_cases h5 : 0 ≤ a7 ∧ a7 ≤ 30
            · rw [px_bi_T h5, if_neg (by omega), px_bi_T (show ty_gud a1 a2 a4 a5 a6 a7 from ⟨h0, h1, h2, h3, h4, h5⟩)]
            · rw [px_bi_F h5, if_pos rfl, b5_68 hr, px_bi_F (fun h : ty_gud a1 a2 a4 a5 a6 a7 => h5 h.2.2.2.2.2)]
          · rw [px_bi_F h4, if_pos rfl, b5_68 hr, px_bi_F (fun h : ty_gud a1 a2 a4 a5 a6 a7 => h4 h.2.2.2.2.1)]
        · rw [px_bi_F h3, if_pos rfl, b5_68 hr, px_bi_F (fun h : ty_gud a1 a2 a4 a5 a6 a7 => h3 h.2.2.2.1)]
      · rw [px_bi_F h2, if_pos rfl, b5_68 hr, px_bi_F (fun h : ty_gud a1 a2 a4 a5 a6 a7 => h2 h.2.2.1)]
    · rw [px_bi_F h1, if_pos rfl, b5_68 hr, px_bi_F (fun h : ty_gud a1 a2 a4 a5 a6 a7 => h1 h.2.1)]
  · rw [px_bi_F h0, if_pos rfl, b5_68 hr, px_bi_F (fun h : ty_gud a1 a2 a4 a5 a6 a7 => h0 h.1)]
theorem ty_gud_r (hr : px_hr r) (d : Nat) (i l : MI) (a1 a2 b a4 a5 a6 a7 : Int) : px_X (d + 1) 151 (0, [vR 123, vI a1, vI a2, vI b, vI a4, vI a5, vI a6, vI a7, vJ, vJ, vJ], []) (px_sh L, i, l, r, t) = px_X (d + 1) 151 (69, [vR 123, vI a1, vI a2, vI b, vI a4, vI a5, vI a6, vI a7, vJ, vJ, vJ], [vI (px_bi (ty_gud a1 a2 a4 a5 a6 a7))]) (px_sh L, i, l, r, t) := by
  rw [b151_0 hr, q141 hr, Option.bind_some, px_psh_some, b151_7 hr]
  by_cases h0 : 0 ≤ a1 ∧ a1 ≤ 9
  · rw [px_bi_T h0, if_neg (by omega), q141 hr, Option.bind_some, px_psh_some, b151_17 hr]
    by_cases h1 : 0 ≤ a2 ∧ a2 ≤ 30
    · rw [px_bi_T h1, if_neg (by omega), q141 hr, Option.bind_some, px_psh_some, b151_28 hr]
      by_cases h2 : 0 ≤ a4 ∧ a4 ≤ 9
      · rw [px_bi_T h2, if_neg (by omega), q141 hr, Option.bind_some, px_psh_some, b151_39 hr]
        by_cases h3 : 0 ≤ a5 ∧ a5 ≤ 9
        · rw [px_bi_T h3, if_neg (by omega), q141 hr, Option.bind_some, px_psh_some, b151_50 hr]
          by_cases h4 : 1 ≤ a6 ∧ a6 ≤ 20
          · rw [px_bi_T h4, if_neg (by omega), q141 hr, Option.bind_some, px_psh_some, b151_61 hr]
            by_cases h5 : 0 ≤ a7 ∧ a7 ≤ 30
            · rw [px_bi_T h5, if_neg (by omega), px_bi_T (show ty_gud a1 a2 a4 a5 a6 a7 from ⟨h0, h1, h2, h3, h4, h5⟩)]
            · rw [px_bi_F h5, if_pos rfl, b151_68 hr, px_bi_F (fun h : ty_gud a1 a2 a4 a5 a6 a7 => h5 h.2.2.2.2.2)]
          · rw [px_bi_F h4, if_pos rfl, b151_68 hr, px_bi_F (fun h : ty_gud a1 a2 a4 a5 a6 a7 => h4 h.2.2.2.2.1)]
        · rw [px_bi_F h3, if_pos rfl, b151_68 hr, px_bi_F (fun h : ty_gud a1 a2 a4 a5 a6 a7 => h3 h.2.2.2.1)]
      · rw [px_bi_F h2, if_pos rfl, b151_68 hr, px_bi_F (fun h : ty_gud a1 a2 a4 a5 a6 a7 => h2 h.2.2.1)]
    · rw [px_bi_F h1, if_pos rfl, b151_68 hr, px_bi_F (fun h : ty_gud a1 a2 a4 a5 a6 a7 => h1 h.2.1)]
  · rw [px_bi_F h0, if_pos rfl, b151_68 hr, px_bi_F (fun h : ty_gud a1 a2 a4 a5 a6 a7 => h0 h.1)]
theorem q53R (hr : px_hr r) (d : Nat) (i l : MI) (h : 0 ≤ i 4 6 ∧ i 4 6 < 10) : px_C d 53 [vR 4] (px_sh L, i, l, r, t) = some (some (vR (21 + (i 4 6).toNat)), (px_sh L, i, l, r, t)) := by
  rw [e53, b53_0 hr _ _ _ (fun _ _ => h), if_neg (by omega), if_neg (by omega)]
theorem q53N (hr : px_hr r) (d : Nat) (i l : MI) (h : i 4 6 = 10) : px_C d 53 [vR 4] (px_sh L, i, l, r, t) = some (some vN, (px_sh L, i, l, r, t)) := by
  rw [e53, b53_0 hr _ _ _ (fun _ h2 => absurd (by omega) h2), if_neg (by omega), if_pos (by omega)]
theorem q49 (hr : px_hr r) (d : Nat) (i l : MI) {k : Nat} (hk : px_gs k) (a1 a2 b a4 a5 a6 a7 : Int) (hb : b = 0 ∨ b = 1) : ∃ i1 : MI, px_C d 49 [vR k, vI a1, vI a2, vI b, vI a4, vI a5, vI a6, vI a7] (px_sh L, i, l, r, t) = some (none, (px_sh L, i1, l, r, t)) ∧ (∀ q, q ≠ k → i1 q = i q) ∧ i1 k 0 = a1 ∧ i1 k 1 = a2 ∧ i1 k 2 = b ∧ i1 k 3 = a4 ∧ i1 k 4 = a5 ∧ i1 k 5 = a6 ∧ i1 k 6 = a7 ∧ i1 k 7 = 0 ∧ i1 k 8 = 1 := by
  refine ⟨_, by rw [e49, b49_0 hr _ _ _ hk _ _ _ _ _ _ _ hb], fun q hq => by rw [ty_up_row hq, ty_up_row hq, ty_up_row hq, ty_up_row hq, ty_up_row hq, ty_up_row hq, ty_up_row hq, ty_up_row hq, ty_up_row hq], ?_, ?_, ?_, ?_, ?_, ?_, ?_, ?_, ?_⟩
  · rw [ty_up_j (by omega), ty_up_j (by omega), ty_up_j (by omega), ty_up_j (by omega), ty_up_j (by omega), ty_up_j (by omega), ty_up_j (by omega), ty_up_j (by omega), ty_up_eq]
  · rw [ty_up_j (by omega), ty_up_j (by omega), ty_up_j (by omega), ty_up_j (by omega), ty_up_j (by omega), ty_up_j (by omega), ty_up_j (by omega), ty_up_eq]
  · rw [ty_up_j (by omega), ty_up_j (by omega), ty_up_j (by omega), ty_up_j (by omega), ty_up_j (by omega), ty_up_j (by omega), ty_up_eq]
  · rw [ty_up_j (by omega), ty_up_j (by omega), ty_up_j (by omega), ty_up_j (by omega), ty_up_j (by omega), ty_up_eq]
  · rw [ty_up_j (by omega), ty_up_j (by omega), ty_up_j (by omega), ty_up_j (by omega), ty_up_eq]
  · rw [ty_up_j (by omega), ty_up_j (by omega), ty_up_j (by omega), ty_up_eq]
  · rw [ty_up_j (by omega), ty_up_j (by omega), ty_up_eq]
  · rw [ty_up_j (by omega), ty_up_eq]
  · rw [ty_up_eq]
/-- the new one goes into the order -/
theorem ty_ins (hr : px_hr r) (d : Nat) (l : MI) (g : Int) {k : Nat} (hk : px_gs k) : ∀ (p : Nat) (i : MI) (v5 : PV), px_nl v5 → (∀ x : Int, 0 ≤ x → x < p → 0 ≤ i 17 x ∧ i 17 x < i 4 6 ∧ i 17 x < 10) → (p : Int) ≤ 9 →
    ∃ i1 : MI, px_X (d + 1) 54 (32, [vR 4, vI g, vR k, vI p, vI p, v5], []) (px_sh L, i, l, r, t) = some (some (vI g), (px_sh L, i1, l, r, t)) ∧ ty_ch [17] i i1 ∧ ∃ q : Int, 0 ≤ q ∧ q ≤ p ∧ i1 17 q = g ∧ (∀ x : Int, 0 ≤ x → x < q → i1 17 x = i 17 x) ∧ (∀ x : Int, q < x → x ≤ p → i1 17 x = i 17 (x - 1)) ∧ (∀ x : Int, p < x → i1 17 x = i 17 x) ∧
      (∀ x : Int, q ≤ x → x < p → i (21 + (i 17 x).toNat) 0 < i k 0) ∧ (0 < q → i k 0 ≤ i (21 + (i 17 (q - 1)).toNat) 0)
  | 0, i, v5, h5, hw, hp => by
    refine ⟨px_up i 17 0 g, ?_, ty_ch_up (List.mem_singleton.mpr rfl), 0, by omega, by omega, ty_up_eq, fun x _ _ => by omega, fun x _ _ => by omega, fun x hx => ty_up_j (by omega), fun x _ _ => by omega, fun h => by omega⟩
    rw [b54_32 hr _ _ _ _ hk _ _ h5, if_pos (by omega), b54_105 hr _ _ _ _ (px_nl_R k) _ _ h5, q34i hr _ _ _ (px_s17 L) (Nat.le_of_ble_eq_true rfl) _ _ (by omega), Option.bind_some, px_psh_none, b54_114 hr _ _ _ _ (px_nl_R k) _ _ h5]
    rfl
  | p + 1, i, v5, h5, hw, hp => by
    have ep : ((p + 1 : Nat) : Int) = (p : Int) + 1 := by omega
    rw [ep] at hw hp ⊢
    have w1 : px_w32 ((p : Int) + 1 - 1) = p := by rw [ty_w (by omega)]; omega
    have w2 : px_w32 ((p : Int) + 1 + -1) = p := by rw [ty_w (by omega)]; omega
    have hfp := hw p (by omega) (by omega)
    have hgs := px_gs_mk21 (x := i 17 p) (by omega)
    by_cases hlt : i (21 + (i 17 p).toNat) 0 < i k 0
    · obtain ⟨j, hj⟩ : ∃ j : MI, j = px_up i 17 ((p : Int) + 1) (i 17 p) := ⟨_, rfl⟩
      have jr : ∀ q, q ≠ 17 → j q = i q := fun q hq => by rw [hj, ty_up_row hq]
      have jl : ∀ x : Int, x ≠ p + 1 → j 17 x = i 17 x := fun x hx => by rw [hj, ty_up_j hx]
      have jp : j 17 ((p : Int) + 1) = i 17 p := by rw [hj, ty_up_eq]
      obtain ⟨i1, e, c, q, q0, q1, v0, v1, v2, v3, v4, v6⟩ := ty_ins hr d l g hk p j (vR (21 + (i 17 p).toNat)) (px_nl_R _) (fun x x0 x1 => by rw [jl x (by omega), jr 4 (by omega)]; exact hw x x0 (by omega)) (by omega)
      refine ⟨i1, ?_, ty_ch_tr (by rw [hj]; exact ty_ch_up (S := [17]) (List.mem_singleton.mpr rfl)) c rfl rfl, q, q0, by omega, v0, fun x x0 x1 => by rw [v1 x x0 x1, jl x (by omega)], fun x x0 x1 => ?_, fun x hx => by rw [v3 x (by omega), jl x (by omega)], fun x x0 x1 => ?_, fun hq => ?_⟩
      · rw [b54_32 hr _ _ _ _ hk _ _ h5, if_neg (by omega), w1, q33i hr _ _ _ (px_s17 L) (Nat.le_of_ble_eq_true rfl) _ (by omega), Option.bind_some, px_psh_some, b54_49 hr _ _ _ _ hk _ _ h5, q52R hr _ _ _ _ hfp, Option.bind_some, px_psh_some, b54_52_g2g hr _ _ _ _ hk _ _ h5 hgs, if_pos hlt, w1, q33i hr _ _ _ (px_s17 L) (Nat.le_of_ble_eq_true rfl) _ (by omega), Option.bind_some, px_psh_some, b54_91 hr _ _ _ _ hk _ _ (px_nl_R _), q34i hr _ _ _ (px_s17 L) (Nat.le_of_ble_eq_true rfl) _ _ (by omega), Option.bind_some, px_psh_none, b54_94 hr _ _ _ _ hk _ _ (px_nl_R _), w1, w2, ← hj, e]
      · by_cases hx : x = p + 1
        · rw [hx, v3 _ (by omega), jp, show (p : Int) + 1 - 1 = p by omega]
        · rw [v2 x x0 (by omega), jl _ (by omega)]
      · by_cases hx : x = p
        · rw [hx]
          exact hlt
        · have h := v4 x x0 (by omega)
          rw [jl x (by omega), jr _ (by omega), jr k (by unfold px_gs at hk; omega)] at h
          exact h
      · have h := v6 hq
        rw [jl _ (by omega), jr k (by unfold px_gs at hk; omega), jr _ (by omega)] at h
        exact h
    · refine ⟨px_up i 17 (p + 1) g, ?_, ty_ch_up (List.mem_singleton.mpr rfl), p + 1, by omega, by omega, ty_up_eq, fun x _ hx => ty_up_j (by omega), fun x _ _ => by omega, fun x hx => ty_up_j (by omega), fun x _ _ => by omega, fun _ => by rw [show (p : Int) + 1 - 1 = p by omega]; omega⟩
      rw [b54_32 hr _ _ _ _ hk _ _ h5, if_neg (by omega), w1, q33i hr _ _ _ (px_s17 L) (Nat.le_of_ble_eq_true rfl) _ (by omega), Option.bind_some, px_psh_some, b54_49 hr _ _ _ _ hk _ _ h5, q52R hr _ _ _ _ hfp, Option.bind_some, px_psh_some, b54_52_g2g hr _ _ _ _ hk _ _ h5 hgs, if_neg hlt, b54_105 hr _ _ _ _ (px_nl_R k) _ _ (px_nl_R _), q34i hr _ _ _ (px_s17 L) (Nat.le_of_ble_eq_true rfl) _ _ (by omega), Option.bind_some, px_psh_none, b54_114 hr _ _ _ _ (px_nl_R k) _ _ (px_nl_R _)]
theorem ty_z14 (hr : px_hr r) (d : Nat) (l : MI) (a1 a2 b a4 a5 a6 a7 x8 q : Int) (hq : 0 ≤ q ∧ q ≤ 300) : ∀ (n : Nat) (i : MI) (k : Int), 0 ≤ k → k + n = 14 →
    ∃ i1 : MI, px_X d 151 (106, [vR 123, vI a1, vI a2, vI b, vI a4, vI a5, vI a6, vI a7, vI x8, vI q, vI k], []) (px_sh L, i, l, r, t) = px_X d 151 (106, [vR 123, vI a1, vI a2, vI b, vI a4, vI a5, vI a6, vI a7, vI x8, vI q, vI 14], []) (px_sh L, i1, l, r, t) ∧ ty_ch [124] i i1 ∧ ∀ x : Int, i1 124 x = if q + k ≤ x ∧ x < q + 14 then 0 else i 124 x
  | 0, i, k, h0, hn => by
    have hk : k = 14 := by omega
    subst hk
    exact ⟨i, rfl, ty_ch_rf, fun x => by rw [if_neg (by omega)]⟩
  | n + 1, i, k, h0, hn => by
    have w0 : px_w32 (q + 0) = q := by rw [ty_w (by omega)]; omega
    have w1 : px_w32 (q + 1) = q + 1 := ty_w (by omega)
    have w2 : px_w32 (q + k) = q + k := ty_w (by omega)
    have w3 : px_w32 (k + 1) = k + 1 := ty_w (by omega)
    obtain ⟨i1, e, c, v⟩ := ty_z14 hr d l a1 a2 b a4 a5 a6 a7 x8 q hq n (px_up i 124 (q + k) 0) (k + 1) (by omega) (by omega)
    refine ⟨i1, ?_, ty_ch_tr (ty_ch_up (S := [124]) (List.mem_singleton.mpr rfl)) c rfl rfl, fun x => ?_⟩
    · have hb := b151_106 (L := L) (t := t) hr d i l a1 a2 b a4 a5 a6 a7 x8 q k
      rw [w0, w1, w2, w3] at hb
      rw [hb (fun _ => by omega) (fun _ => by omega) (fun _ => by omega), if_neg (by omega), e]
    · rw [v x]
      by_cases hx : x = q + k
      · rw [if_neg (by omega), hx, ty_up_eq, if_pos (by omega)]
      · rw [ty_up_j hx]
        by_cases h2 : q + (k + 1) ≤ x ∧ x < q + 14
        · rw [if_pos h2, if_pos (by omega)]
        · rw [if_neg h2, if_neg (by omega)]
/-- what the reference writes -/
theorem ty_gu_r (hr : px_hr r) (d : Nat) (i l : MI) (a1 a2 b a4 a5 a6 a7 x8 n : Int) (hb : b = 0 ∨ b = 1) (hn : 0 ≤ n ∧ n < 10) (h4 : i 124 4 = n) :
    ∃ i1 : MI, px_X d 151 (106, [vR 123, vI a1, vI a2, vI b, vI a4, vI a5, vI a6, vI a7, vI x8, vI (120 + 14 * n), vI 0], []) (px_sh L, i, l, r, t) = some (some (vI n), (px_sh L, i1, l, r, t)) ∧ (∀ k, k ≠ 124 → i1 k = i k) ∧ i1 124 4 = n + 1 ∧ (∀ x : Int, x ≠ 4 → ¬ (120 + 14 * n ≤ x ∧ x < 134 + 14 * n) → i1 124 x = i 124 x) ∧
      i1 124 (120 + 14 * n + 0) = a1 ∧ i1 124 (120 + 14 * n + 1) = a2 ∧ i1 124 (120 + 14 * n + 2) = b ∧ i1 124 (120 + 14 * n + 3) = a4 ∧ i1 124 (120 + 14 * n + 4) = a5 ∧ i1 124 (120 + 14 * n + 5) = a6 ∧ i1 124 (120 + 14 * n + 6) = a7 ∧ i1 124 (120 + 14 * n + 7) = 0 ∧ i1 124 (120 + 14 * n + 8) = 1 ∧ i1 124 (129 + 14 * n) = 0 ∧ i1 124 (130 + 14 * n) = 0 ∧ i1 124 (131 + 14 * n) = 0 ∧ i1 124 (132 + 14 * n) = 0 := by
  obtain ⟨q, hq⟩ : ∃ q : Int, q = 120 + 14 * n := ⟨_, rfl⟩
  obtain ⟨j, e, c, v⟩ := ty_z14 (L := L) (r := r) (t := t) hr d l a1 a2 b a4 a5 a6 a7 x8 q (by omega) 14 i 0 (by omega) (by omega)
  have w0 : px_w32 (q + 0) = q := by rw [ty_w (by omega)]; omega
  have w1 : px_w32 (q + 1) = q + 1 := ty_w (by omega)
  have w2 : px_w32 (q + 2) = q + 2 := ty_w (by omega)
  have w3 : px_w32 (q + 3) = q + 3 := ty_w (by omega)
  have w4 : px_w32 (q + 4) = q + 4 := ty_w (by omega)
  have w5 : px_w32 (q + 5) = q + 5 := ty_w (by omega)
  have w6 : px_w32 (q + 6) = q + 6 := ty_w (by omega)
  have w8 : px_w32 (q + 8) = q + 8 := ty_w (by omega)
  have w14 : px_w32 (q + 14) = q + 14 := ty_w (by omega)
  have w9 : px_w32 (n + 1) = n + 1 := ty_w (by omega)
  have w10 : px_w32 (n + 1 - 1) = n := by rw [ty_w (by omega)]; omega
  obtain ⟨j2, hj2⟩ : ∃ j2 : MI, j2 = px_up (px_up j 124 q a1) 124 (q + 1) a2 := ⟨_, rfl⟩
  obtain ⟨j3, hj3⟩ : ∃ j3 : MI, j3 = px_up (px_up (px_up (px_up (px_up (px_up j2 124 (q + 2) b) 124 (q + 3) a4) 124 (q + 4) a5) 124 (q + 5) a6) 124 (q + 6) a7) 124 (q + 8) 1 := ⟨_, rfl⟩
  have j34 : j3 124 4 = n := by
    rw [hj3, ty_up_j (by omega), ty_up_j (by omega), ty_up_j (by omega), ty_up_j (by omega), ty_up_j (by omega), ty_up_j (by omega), hj2, ty_up_j (by omega), ty_up_j (by omega), v, if_neg (by omega), h4]
  have b1 := b151_106 (L := L) (t := t) hr d j l a1 a2 b a4 a5 a6 a7 x8 q 14
  rw [w0, w1, w2, w14, ← hj2] at b1
  have b2 := b151_167 (L := L) (t := t) hr d j2 l a1 a2 b a4 a5 a6 a7 x8 q 14 b (q + 2) (by omega)
  rw [w3, w4, w5, w6, w8, ← hj3, j34, w9, w10] at b2
  have b2 := b2 (by omega) (by omega) (by omega) (by omega) (by omega)
  have b1' : px_X d 151 (106, [vR 123, vI a1, vI a2, vI b, vI a4, vI a5, vI a6, vI a7, vI x8, vI q, vI 14], []) (px_sh L, j, l, r, t) = px_X d 151 (167, [vR 123, vI a1, vI a2, vI b, vI a4, vI a5, vI a6, vI a7, vI x8, vI q, vI 14], [vI b, vI (q + 2), vR 124]) (px_sh L, j2, l, r, t) := by
    rw [b1 (fun _ => by omega) (fun _ => by omega) (fun h => absurd (by omega) h), if_pos (by omega)]
    rcases hb with h | h
    · rw [if_pos h, h]
    · rw [if_neg (by omega), h]
  rw [← hq]
  refine ⟨px_up j3 124 4 (n + 1), by rw [e, b1', b2], fun k hk => ?_, ty_up_eq, fun x x4 xq => ?_, ?_, ?_, ?_, ?_, ?_, ?_, ?_, ?_, ?_, ?_, ?_, ?_, ?_⟩
  · rw [ty_up_row hk, hj3, ty_up_row hk, ty_up_row hk, ty_up_row hk, ty_up_row hk, ty_up_row hk, ty_up_row hk, hj2, ty_up_row hk, ty_up_row hk, c k (fun h => hk (List.mem_singleton.mp h))]
  · rw [ty_up_j x4, hj3, ty_up_j (by omega), ty_up_j (by omega), ty_up_j (by omega), ty_up_j (by omega), ty_up_j (by omega), ty_up_j (by omega), hj2, ty_up_j (by omega), ty_up_j (by omega), v, if_neg (by omega)]
  · rw [ty_up_j (by omega), hj3, ty_up_j (by omega), ty_up_j (by omega), ty_up_j (by omega), ty_up_j (by omega), ty_up_j (by omega), ty_up_j (by omega), hj2, ty_up_j (by omega), show q + 0 = q by omega, ty_up_eq]
  · rw [ty_up_j (by omega), hj3, ty_up_j (by omega), ty_up_j (by omega), ty_up_j (by omega), ty_up_j (by omega), ty_up_j (by omega), ty_up_j (by omega), hj2, ty_up_eq]
  · rw [ty_up_j (by omega), hj3, ty_up_j (by omega), ty_up_j (by omega), ty_up_j (by omega), ty_up_j (by omega), ty_up_j (by omega), ty_up_eq]
  · rw [ty_up_j (by omega), hj3, ty_up_j (by omega), ty_up_j (by omega), ty_up_j (by omega), ty_up_j (by omega), ty_up_eq]
  · rw [ty_up_j (by omega), hj3, ty_up_j (by omega), ty_up_j (by omega), ty_up_j (by omega), ty_up_eq]
  · rw [ty_up_j (by omega), hj3, ty_up_j (by omega), ty_up_j (by omega), ty_up_eq]
  · rw [ty_up_j (by omega), hj3, ty_up_j (by omega), ty_up_eq]
  · rw [ty_up_j (by omega), hj3, ty_up_j (by omega), ty_up_j (by omega), ty_up_j (by omega), ty_up_j (by omega), ty_up_j (by omega), ty_up_j (by omega), hj2, ty_up_j (by omega), ty_up_j (by omega), v, if_pos (by omega)]
  · rw [ty_up_j (by omega), hj3, ty_up_eq]
  · rw [ty_up_j (by omega), hj3, ty_up_j (by omega), ty_up_j (by omega), ty_up_j (by omega), ty_up_j (by omega), ty_up_j (by omega), ty_up_j (by omega), hj2, ty_up_j (by omega), ty_up_j (by omega), v, if_pos (by omega)]
  · rw [ty_up_j (by omega), hj3, ty_up_j (by omega), ty_up_j (by omega), ty_up_j (by omega), ty_up_j (by omega), ty_up_j (by omega), ty_up_j (by omega), hj2, ty_up_j (by omega), ty_up_j (by omega), v, if_pos (by omega)]
  · rw [ty_up_j (by omega), hj3, ty_up_j (by omega), ty_up_j (by omega), ty_up_j (by omega), ty_up_j (by omega), ty_up_j (by omega), ty_up_j (by omega), hj2, ty_up_j (by omega), ty_up_j (by omega), v, if_pos (by omega)]
  · rw [ty_up_j (by omega), hj3, ty_up_j (by omega), ty_up_j (by omega), ty_up_j (by omega), ty_up_j (by omega), ty_up_j (by omega), ty_up_j (by omega), hj2, ty_up_j (by omega), ty_up_j (by omega), v, if_pos (by omega)]
end TYGU
theorem ok_guest (a1 a2 b : Int) (hb01 : b = 0 ∨ b = 1) (a4 a5 a6 a7 : Int) : ty_ok ty_CR 5 151 [vI a1, vI a2, vI b, vI a4, vI a5, vI a6, vI a7] := by
  intro L t r hr n d i l hn hc
  have hc' := ty_CR_mono hc
  have hD := hc.1
  have hdim := ty_D_2 hD
  obtain ⟨hb, hs, hp, hg, ho, hh, hl, hnn⟩ := hc.2.1
  have b3 := hs.2.2.1
  have b4 : i 4 6 = i 124 4 ∧ 0 ≤ i 124 4 ∧ i 124 4 ≤ 10 := hs.2.2.2.1
  have b7 := hs.2.2.2.2.2.2.1
  have b8 := hs.2.2.2.2.2.2.2
  have e48 : i 4 8 = i 124 6 := hs.2.2.2.2.2.1.1
  have b5 := hs.2.2.2.2.1
  have b6 := hs.2.2.2.2.2.1
  show ∃ (v : Int) (i1 l1 i2 l2 : MI), px_C (d + 38 + 1 + 1) 5 [vR 3, vI a1, vI a2, vI b, vI a4, vI a5, vI a6, vI a7] _ = _ ∧ px_C (d + 38 + 1 + 1) 151 [vR 123, vI a1, vI a2, vI b, vI a4, vI a5, vI a6, vI a7] _ = _ ∧ _
  have rej : (¬ ty_gud a1 a2 a4 a5 a6 a7 ∨ i 124 4 = 10) → px_C (d + 38 + 1 + 1) 5 [vR 3, vI a1, vI a2, vI b, vI a4, vI a5, vI a6, vI a7] (px_sh L, i, l, r, t) = some (some (vI (-1)), (px_sh L, i, l, r, t)) ∧ px_C (d + 38 + 1 + 1) 151 [vR 123, vI a1, vI a2, vI b, vI a4, vI a5, vI a6, vI a7] (px_sh L, i, l, r, t) = some (some (vI (-1)), (px_sh L, i, l, r, t)) := fun h => by
    constructor
    · rw [e5, ty_gud_c hr, b5_69 hr]
      by_cases h10 : i 124 4 = 10
      · rw [q53N hr _ _ _ (by omega), Option.bind_some, px_psh_some, b5_78_N hr, ite_self]
      · have hng : ¬ ty_gud a1 a2 a4 a5 a6 a7 := by
          rcases h with h | h
          · exact h
          · exact absurd h h10
        rw [q53R hr _ _ _ (by omega), Option.bind_some, px_psh_some, b5_78_g hr _ _ _ _ _ _ _ _ _ _ _ (px_gs_mk21 (by omega)), px_bi_F hng, if_pos rfl]
    · rw [e151, ty_gud_r hr, b151_69 hr]
      by_cases h10 : i 124 4 = 10
      · rw [if_pos h10, ite_self]
      · have hng : ¬ ty_gud a1 a2 a4 a5 a6 a7 := by
          rcases h with h | h
          · exact h
          · exact absurd h h10
        rw [px_bi_F hng, if_pos rfl]
  by_cases hgd : ty_gud a1 a2 a4 a5 a6 a7
  · by_cases h10 : i 124 4 = 10
    · exact ⟨-1, i, l, i, l, (rej (Or.inr h10)).1, (rej (Or.inr h10)).2, hc', rfl, rfl⟩
    · obtain ⟨m, hm⟩ : ∃ m : Int, m = i 124 4 := ⟨_, rfl⟩
      have em : i 4 6 = m := by omega
      have w1 : px_w32 (m + 1) = m + 1 := ty_w (by omega)
      have w2 : px_w32 (14 * m) = 14 * m := ty_w (by omega)
      have w3 : px_w32 (120 + 14 * m) = 120 + 14 * m := ty_w (by omega)
      have hgs := px_gs_mk21 (x := m) (by omega)
      obtain ⟨iA, eA, rA, k0, k1, k2, k3, k4, k5, k6, k7, k8⟩ := q49 (L := L) (r := r) (t := t) hr (d + 38 + 1) i l hgs a1 a2 b a4 a5 a6 a7 hb01
      obtain ⟨iB, hB⟩ : ∃ iB : MI, iB = px_up iA 4 6 (m + 1) := ⟨_, rfl⟩
      have rB : ∀ k, k ≠ 4 → iB k = iA k := fun k hk => by rw [hB, ty_up_row hk]
      have B46 : iB 4 6 = m + 1 := by rw [hB, ty_up_eq]
      have A46 : iA 4 6 = m := by rw [rA 4 (by omega), em]
      have B4 : ∀ j : Int, j ≠ 6 → iB 4 j = i 4 j := fun j hj => by rw [hB, ty_up_j hj, rA 4 (by omega)]
      have B17 : iB 17 = i 17 := by rw [rB 17 (by omega), rA 17 (by omega)]
      have hof : ∀ x : Int, 0 ≤ x → x < m → 0 ≤ i 17 x ∧ i 17 x < m := fun x x0 x1 => by
        have h : 0 ≤ i 17 x ∧ i 17 x < i 124 4 := ho.1 x x0 (by omega)
        omega
      obtain ⟨i1, e1, c1, q, q0, q1, v0, v1, v2, v3, v4, v6⟩ := ty_ins (L := L) (r := r) (t := t) hr (d + 38) l m hgs m.toNat iB vJ px_nl_J (fun x x0 x1 => by
        have h := hof x x0 (by omega)
        rw [B17, B46]
        omega) (by omega)
      rw [Int.toNat_of_nonneg (by omega)] at e1 q1 v2 v3 v4
      have r1 : ∀ k, k ≠ 4 → k ≠ 17 → k ≠ 21 + m.toNat → i1 k = i k := fun k h4 h17 hk => by rw [c1 k (fun h => h17 (List.mem_singleton.mp h)), rB k h4, rA k hk]
      obtain ⟨i2, e2, r2, n4, n0, u0, u1, u2, u3, u4, u5, u6, u7, u8, u9, u10, u11, u12⟩ := ty_gu_r (L := L) (r := r) (t := t) hr (d + 38 + 1 + 1) i1 l a1 a2 b a4 a5 a6 a7 1 m hb01 (by omega) (by rw [r1 124 (by omega) (by omega) (by omega), hm])
      have hR : ∀ k, k ≠ 4 → k ≠ 17 → k ≠ 21 + m.toNat → k ≠ 124 → i2 k = i k := fun k h4 h17 hk h124 => by rw [r2 k h124, r1 k h4 h17 hk]
      have hA : ∀ x : Int, x ≠ 4 → ¬ (120 + 14 * m ≤ x ∧ x < 134 + 14 * m) → i2 124 x = i 124 x := fun x h4 hx => by rw [n0 x h4 hx, r1 124 (by omega) (by omega) (by omega)]
      have R4 : ∀ j : Int, j ≠ 6 → i2 4 j = i 4 j := fun j hj => by rw [r2 4 (by omega), c1 4 (by decide), B4 j hj]
      have R46 : i2 4 6 = m + 1 := by rw [r2 4 (by omega), c1 4 (by decide), B46]
      have R17 : i2 17 = i1 17 := r2 17 (by omega)
      have RG : ∀ c : Int, i2 (21 + m.toNat) c = iA (21 + m.toNat) c := fun c => by rw [r2 _ (by omega), c1 _ (fun h => by have := List.mem_singleton.mp h; omega), rB _ (by omega)]
      refine ⟨m, i1, l, i2, l, ?_, ?_, ⟨?_, ⟨?_, ?_, ?_, ?_, ?_, ?_, ?_, ?_⟩, ?_, ?_, ?_⟩, r1 0 (by omega) (by omega) (by omega), hR 0 (by omega) (by omega) (by omega) (by omega)⟩
      · rw [e5, ty_gud_c hr, b5_69 hr, q53R hr _ _ _ (by omega), Option.bind_some, px_psh_some, em, b5_78_g hr _ _ _ _ _ _ _ _ _ _ _ hgs, px_bi_T hgd, if_neg (by omega), eA, Option.bind_some, px_psh_none, b5_108 hr _ _ _ _ _ _ _ _ _ _ _ (px_nl_R _), e54, b54_0 hr, A46, w1, ← hB, q52R hr _ _ _ _ (by omega), Option.bind_some, px_psh_some, b54_20_g hr _ _ _ _ hgs, e1, Option.bind_some, px_psh_some, b5_115 hr _ _ _ _ _ _ _ _ _ _ _ (px_nl_R _)]
      · rw [e151, ty_gud_r hr, b151_69 hr, px_bi_T hgd, if_neg (by omega), r1 124 (by omega) (by omega) (by omega), if_neg h10, ← hm, w2, w3, e2]
      · have q19 := hR 19 (by omega) (by omega) (by omega) (by omega)
        have q123 := hR 123 (by omega) (by omega) (by omega) (by omega)
        refine ty_D_c (i := i) (l := l) (by rw [q123]) (by rw [q123]) (by rw [q123]) (by rw [q19]) (by rw [q19]) (by rw [q19]) rfl rfl rfl (fun k hk => ?_) hD
        by_cases hkm : k = 21 + m.toNat
        · rw [hkm, RG, RG, k2, k8]
          omega
        · rw [hR k (by unfold px_gs at hk; omega) (by unfold px_gs at hk; omega) hkm (by unfold px_gs at hk; omega)]
          exact ⟨Or.inl rfl, Or.inl rfl⟩
      · exact ty_Hb_c (i := i) (l := l) (by rw [hR _ (by omega) (by omega) (by omega) (by omega)]) rfl (by rw [hR _ (by omega) (by omega) (by omega) (by omega)]) (hR _ (by omega) (by omega) (by omega) (by omega)) (by omega) (fun x hx => hA x (by omega) (by omega)) hb
      · unfold ty_Hs at hs ⊢
        simp only [Nat.add_zero] at hs ⊢
        rw [R4 3 (by omega), R4 4 (by omega), R4 5 (by omega), R46, R4 7 (by omega), R4 8 (by omega), R4 9 (by omega), hR 5 (by omega) (by omega) (by omega) (by omega), n4, hA 1 (by omega) (by omega), hA 2 (by omega) (by omega), hA 3 (by omega) (by omega), hA 5 (by omega) (by omega), hA 6 (by omega) (by omega), hA 7 (by omega) (by omega), hA 8 (by omega) (by omega)]
        exact ⟨hs.1, hs.2.1, hs.2.2.1, ⟨rfl, by omega, by omega⟩, hs.2.2.2.2⟩
      · exact ty_Hp_c (hR _ (by omega) (by omega) (by omega) (by omega)) (hR _ (by omega) (by omega) (by omega) (by omega)) b3.2.2 (fun x hx => hA x (by omega) (by omega)) hp
      · intro g g0 g1 c cc0 cc1
        rw [n4] at g1
        by_cases hgm : g = m
        · subst hgm
          rw [Nat.add_zero]
          unfold ty_gud at hgd
          have hcc : c = 0 ∨ c = 1 ∨ c = 2 ∨ c = 3 ∨ c = 4 ∨ c = 5 ∨ c = 6 ∨ c = 7 ∨ c = 8 := by omega
          unfold ty_col
          rcases hcc with h | h | h | h | h | h | h | h | h <;> subst h
          · rw [RG, k0, u0]; omega
          · rw [RG, k1, u1]; omega
          · rw [RG, k2, u2]; omega
          · rw [RG, k3, u3]; omega
          · rw [RG, k4, u4]; omega
          · rw [RG, k5, u5]; omega
          · rw [RG, k6, u6]; omega
          · rw [RG, k7, u7]; omega
          · rw [RG, k8, u8]; omega
        · rw [hR _ (by omega) (by omega) (by omega) (by omega), hA _ (by omega) (by omega)]
          exact hg g g0 (by omega) c cc0 cc1
      · have hrk : ∀ g : Int, 0 ≤ g → g < m → i2 124 (120 + 14 * g) = i (21 + g.toNat) 0 := fun g g0 g1 => by
          have h : i (21 + 0 + g.toNat) 0 = i 124 (120 + 14 * g + 0) := (hg g g0 (by omega) 0 (by omega) (by omega)).1
          rw [hA _ (by omega) (by omega), show 120 + 14 * g = 120 + 14 * g + 0 by omega, ← h]
        have hrm : i2 124 (120 + 14 * m) = a1 := by
          rw [show 120 + 14 * m = 120 + 14 * m + 0 by omega, u0]
        have hBk : iB (21 + m.toNat) 0 = a1 := by rw [rB _ (by omega), k0]
        have w4 : ∀ x : Int, q ≤ x → x < m → i (21 + (i 17 x).toNat) 0 < a1 := fun x x0 x1 => by
          have h := v4 x x0 x1
          have hx := hof x (by omega) x1
          rw [hBk, B17, rB _ (by omega), rA _ (by omega)] at h
          exact h
        have w6 : 0 < q → a1 ≤ i (21 + (i 17 (q - 1)).toNat) 0 := fun hq => by
          have h := v6 hq
          have hx := hof (q - 1) (by omega) (by omega)
          rw [hBk, B17, rB _ (by omega), rA _ (by omega)] at h
          exact h
        have old : ∀ x y : Int, 0 ≤ x → x < y → y < m → i (21 + (i 17 y).toNat) 0 < i (21 + (i 17 x).toNat) 0 ∨ (i (21 + (i 17 y).toNat) 0 = i (21 + (i 17 x).toNat) 0 ∧ i 17 x < i 17 y) := fun x y x0 xy y1 => by
          have h := ho.2 x y x0 xy (by omega)
          have hx := hof x x0 (by omega)
          have hy := hof y (by omega) y1
          have ex := hrk _ hx.1 hx.2
          have ey := hrk _ hy.1 hy.2
          rw [hA _ (by omega) (by omega)] at ex ey
          rw [← ex, ← ey]
          exact h
        have at1 : ∀ x : Int, 0 ≤ x → x < q → i2 17 x = i 17 x := fun x x0 x1 => by rw [R17, v1 x x0 x1, B17]
        have at2 : i2 17 q = m := by rw [R17, v0]
        have at3 : ∀ x : Int, q < x → x ≤ m → i2 17 x = i 17 (x - 1) := fun x x0 x1 => by rw [R17, v2 x x0 x1, B17]
        refine ⟨fun x x0 x1 => ?_, fun x y x0 xy y1 => ?_⟩
        · rw [n4] at x1 ⊢
          show 0 ≤ i2 17 x ∧ i2 17 x < m + 1
          by_cases h1 : x < q
          · rw [at1 x x0 h1]
            have := hof x x0 (by omega)
            omega
          · by_cases h2 : x = q
            · rw [h2, at2]
              omega
            · rw [at3 x (by omega) (by omega)]
              have := hof (x - 1) (by omega) (by omega)
              omega
        · rw [n4] at y1
          show i2 124 (120 + 14 * i2 17 y) < i2 124 (120 + 14 * i2 17 x) ∨ (i2 124 (120 + 14 * i2 17 y) = i2 124 (120 + 14 * i2 17 x) ∧ i2 17 x < i2 17 y)
          by_cases hy1 : y < q
          · have hx := hof x x0 (by omega)
            have hy := hof y (by omega) (by omega)
            rw [at1 x x0 (by omega), at1 y (by omega) hy1, hrk _ hx.1 hx.2, hrk _ hy.1 hy.2]
            exact old x y x0 xy (by omega)
          · by_cases hy2 : y = q
            · have hx := hof x x0 (by omega)
              rw [at1 x x0 (by omega), hy2, at2, hrk _ hx.1 hx.2, hrm]
              have h6 := w6 (by omega)
              by_cases hxq : x = q - 1
              · rw [hxq] at hx ⊢
                omega
              · have h := old x (q - 1) x0 (by omega) (by omega)
                omega
            · have hy := hof (y - 1) (by omega) (by omega)
              rw [at3 y (by omega) (by omega), hrk _ hy.1 hy.2]
              by_cases hx1 : x < q
              · have hx := hof x x0 (by omega)
                rw [at1 x x0 hx1, hrk _ hx.1 hx.2]
                exact old x (y - 1) x0 (by omega) (by omega)
              · by_cases hx2 : x = q
                · rw [hx2, at2, hrm]
                  exact Or.inl (w4 (y - 1) (by omega) (by omega))
                · have hx := hof (x - 1) (by omega) (by omega)
                  rw [at3 x (by omega) (by omega), hrk _ hx.1 hx.2]
                  exact old (x - 1) (y - 1) (by omega) (by omega) (by omega)
      · exact ty_Hh_c (hR _ (by omega) (by omega) (by omega) (by omega)) b7.2.2 (fun x hx => hA x (by omega) (by omega)) hh
      · exact ty_Hl_c (hR _ (by omega) (by omega) (by omega) (by omega)) (hR _ (by omega) (by omega) (by omega) (by omega)) (hR _ (by omega) (by omega) (by omega) (by omega)) b8.2.2 (by rw [n4]; omega) (by rw [hA 3 (by omega) (by omega)]; omega) (fun x hx => hA x (by omega) (by omega)) hl
      · unfold ty_Hn at hnn ⊢
        rw [hR (9 + 0) (by omega) (by omega) (by omega) (by omega), hR (10 + 0) (by omega) (by omega) (by omega) (by omega), hR (11 + 0) (by omega) (by omega) (by omega) (by omega), hR (12 + 0) (by omega) (by omega) (by omega) (by omega), hR (13 + 0) (by omega) (by omega) (by omega) (by omega), n4, hA 9 (by omega) (by omega), hA 10 (by omega) (by omega)]
        refine ⟨hnn.1, hnn.2.1, hnn.2.2.1, fun g g0 g1 => ⟨fun g2 => (hnn.2.2.2.1 g g0 g1).1 (by omega), fun g2 => ?_⟩, fun k g kk0 kk1 kk2 g0 g1 hbt => ?_⟩
        · by_cases hgm : g = m
          · have h := (hnn.2.2.2.1 g g0 g1).1 (by omega)
            rw [hgm] at h ⊢
            rw [u12, u9, u10, u11, h.1, h.2.1, h.2.2.1, h.2.2.2]
            exact ⟨rfl, ⟨rfl, by omega, by omega⟩, ⟨rfl, by omega, by omega⟩, ⟨rfl, by omega, by omega⟩⟩
          · rw [hA (132 + 14 * g) (by omega) (by omega), hA (129 + 14 * g) (by omega) (by omega), hA (130 + 14 * g) (by omega) (by omega), hA (131 + 14 * g) (by omega) (by omega)]
            exact (hnn.2.2.2.1 g g0 g1).2 (by omega)
        · by_cases hgm : g = m
          · have h := (hnn.2.2.2.1 g g0 (by omega)).1 (by omega)
            rw [h.1] at hbt
            exact absurd hbt (by decide)
          · rw [hA (320 + 10 * k + g) (by omega) (by omega)]
            exact hnn.2.2.2.2 k g kk0 kk1 kk2 g0 (by omega) hbt
      · exact ty_H_same 27 125 (i := i) (l := l) (fun k kk0 kk1 => hR _ (by omega) (by omega) (by omega) (by omega)) (hR _ (by omega) (by omega) (by omega) (by omega)) (by rw [hR _ (by omega) (by omega) (by omega) (by omega)]) rfl (by omega) hc.2.2.1
      · have q58 := hR 58 (by omega) (by omega) (by omega) (by omega)
        have q123 := hR 123 (by omega) (by omega) (by omega) (by omega)
        exact ty_T_c (by rw [q58]) (by rw [q58]) (by rw [q58]) (by rw [q58]) (by rw [q123]) (by rw [q123]) (by rw [q123]) (hR _ (by omega) (by omega) (by omega) (by omega)) (hR _ (by omega) (by omega) (by omega) (by omega)) hc.2.2.2.1
      · exact ty_Y_c (i := i) (by omega) (by omega) (hA 5 (by omega) (by omega)) (by rw [hR _ (by omega) (by omega) (by omega) (by omega)]) (fun k kk0 kk1 => hR _ (by omega) (by omega) (by omega) (by omega)) (fun k kk0 kk1 => hR _ (by omega) (by omega) (by omega) (by omega)) (fun m m0 m1 => Or.inr ⟨by rw [hR _ (by omega) (by omega) (by omega) (by omega)], R4 3 (by omega), R4 4 (by omega), R4 8 (by omega)⟩) (by rw [hR _ (by omega) (by omega) (by omega) (by omega)]) (hR _ (by omega) (by omega) (by omega) (by omega)) hc.2.2.2.2
  · exact ⟨-1, i, l, i, l, (rej (Or.inl hgd)).1, (rej (Or.inl hgd)).2, hc', rfl, rfl⟩
