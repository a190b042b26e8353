/-! told: what the night's numbers and the bill are. -/
/-- where the class's guests, house and night agree with the reference's -/
def ty_bill (i : MI) (a : Int) : Int := ty_says i 2 999999 (Int.tdiv (i 124 (129 + 14 * a) + 59) 60 * 10 + i 124 (127 + 14 * a)) (fun v => if v = 3 then i 124 (120 + 14 * a) else if v = 6 then i 124 (124 + 14 * a) else if v = 11 then i 124 (129 + 14 * a) else if v = 12 then i 124 (131 + 14 * a) else i 124 (127 + 14 * a))
theorem ty_fnd_ch {S : List Nat} {i i' : MI} {kind : Int} (hL : ty_LW i) (hc : ty_ch S i i') (hS : S.all (fun k => decide (k ≠ 4 ∧ (k < 73 ∨ 103 ≤ k))) = true) : ty_fnd i' kind = ty_fnd i kind := by
  have hm : ∀ k, k ∈ S → k ≠ 4 ∧ (k < 73 ∨ 103 ≤ k) := fun k hk => of_decide_eq_true (List.all_eq_true.mp hS k hk)
  have h4 := hc 4 (fun hk => (hm _ hk).1 rfl)
  have hb1 := hL.1
  have hb2 := hL.2.1
  have hb3 := hL.2.2.1
  unfold ty_fnd
  rw [h4]
  by_cases h8 : i 4 8 = -1
  · rw [if_pos h8, if_pos h8]
  · rw [if_neg h8, if_neg h8, hc (73 + 5 * (i 4 8).toNat) (fun hk => by have := hm _ hk; omega), ty_find_c (hc (73 + 5 * (i 4 8).toNat + 2) (fun hk => by have := hm _ hk; omega))]
theorem ty_vl_ch {S : List Nat} {i i' : MI} {k : Int} {env : Int → Int} (hL : ty_LW i) (hn : ¬ i 4 8 = -1) (hc : ty_ch S i i') (hS : S.all (fun k => decide (k ≠ 4 ∧ (k < 73 ∨ 103 ≤ k))) = true) : ty_vl i' k env = ty_vl i k env := by
  have hm : ∀ k, k ∈ S → k ≠ 4 ∧ (k < 73 ∨ 103 ≤ k) := fun k hk => of_decide_eq_true (List.all_eq_true.mp hS k hk)
  have h4 := hc 4 (fun hk => (hm _ hk).1 rfl)
  have hb1 := hL.1
  have hb2 := hL.2.1
  have hb3 := hL.2.2.1
  unfold ty_vl ty_val
  rw [h4, ty_codes_c (hc _ (fun hk => by have := hm _ hk; omega)) (hc _ (fun hk => by have := hm _ hk; omega)) (hc _ (fun hk => by have := hm _ hk; omega))]
theorem ty_fnd_0 {i : MI} {kind : Int} (h : ¬ ty_fnd i kind = -1) : ¬ i 4 8 = -1 := fun h8 => h (if_pos h8)
section TYO
variable {L t : Nat} {r : MR}
theorem q69 (hr : px_hr r) (d : Nat) (i l : MI) (a : Int) (h : ty_V i) (ha : 0 ≤ a ∧ a < i 4 6 ∧ a < 10) (hg : ∀ c : Int, 0 ≤ c → c < 9 → i (21 + a.toNat) c = i 124 (120 + 14 * a + c) ∧ ty_col c (i 124 (120 + 14 * a + c))) (h9 : 0 ≤ i 9 2 ∧ i 9 2 < 1024) (hw : ty_bit (i 9 2) a = true → (i 10 a = i 124 (129 + 14 * a) ∧ 0 ≤ i 124 (129 + 14 * a) ∧ i 124 (129 + 14 * a) ≤ 1440) ∧ (i 12 a = i 124 (131 + 14 * a) ∧ 0 ≤ i 124 (131 + 14 * a) ∧ i 124 (131 + 14 * a) ≤ 1440)) :
    ∃ i1 : MI, px_C (d + 4) 69 [vR 68, vI a] (px_sh L, i, l, r, t) = some (some (vI (if ty_bit (i 9 2) a = true then ty_bill i a else 0)), (px_sh L, i1, l, r, t)) ∧ ty_ch [71, 72] i i1 ∧ ty_V i1 := by
  have hgs : px_gs (21 + a.toNat) := px_gs_mk21 (by omega)
  have hV := h
  obtain ⟨hL, hk, hsw, hso⟩ := h
  have hbit : (0 ≤ a ∧ a < 31 ∧ ty_bit (i 9 2) a = true) ↔ ty_bit (i 9 2) a = true := ⟨fun h => h.2.2, fun h => ⟨ha.1, by omega, h⟩⟩
  rw [e69, b69_0 hr, q52R hr _ _ _ _ ha, Option.bind_some, px_psh_some, b69_8_g hr _ _ _ _ hgs, q32 hr _ _ _ _ _ h9.1 (by omega), Option.bind_some, px_psh_some, b69_29 hr _ _ _ _ hgs]
  by_cases hb : ty_bit (i 9 2) a = true
  · have g0 := hg 0 (by omega) (by omega)
    have g4 := hg 4 (by omega) (by omega)
    have g7 := hg 7 (by omega) (by omega)
    have c0 := g0.2.2.1 (by omega)
    have c4 := g4.2.2.1 (by omega)
    have c7 := g7.2.2.2.2.2.2 rfl
    have p0 := g0.2.1
    have p4 := g4.2.1
    have p7 := g7.2.1
    rw [show 120 + 14 * a + 0 = 120 + 14 * a by omega] at g0 c0 p0
    rw [show 120 + 14 * a + 4 = 124 + 14 * a by omega] at g4 c4 p4
    rw [show 120 + 14 * a + 7 = 127 + 14 * a by omega] at g7 c7 p7
    obtain ⟨hwet, hmov⟩ := hw hb
    obtain ⟨j, hj⟩ : ∃ j : MI, j = px_up (px_up (px_up (px_up (px_up i 71 3 (i 124 (120 + 14 * a))) 71 6 (i 124 (124 + 14 * a))) 71 11 (i 124 (129 + 14 * a))) 71 12 (i 124 (131 + 14 * a))) 71 13 (i 124 (127 + 14 * a)) := ⟨_, rfl⟩
    have cj : ty_ch [71] i j := by
      intro k hk
      have hk' : k ≠ 71 := fun e => hk (by rw [e]; exact List.mem_singleton.mpr rfl)
      rw [hj, ty_up_row hk', ty_up_row hk', ty_up_row hk', ty_up_row hk', ty_up_row hk']
    have hLj : ty_LW j := ty_LW_ch hL cj rfl
    have j3 : j 71 3 = i 124 (120 + 14 * a) := by rw [hj, ty_up_j (by omega), ty_up_j (by omega), ty_up_j (by omega), ty_up_j (by omega), ty_up_eq]
    have j6 : j 71 6 = i 124 (124 + 14 * a) := by rw [hj, ty_up_j (by omega), ty_up_j (by omega), ty_up_j (by omega), ty_up_eq]
    have j11 : j 71 11 = i 124 (129 + 14 * a) := by rw [hj, ty_up_j (by omega), ty_up_j (by omega), ty_up_eq]
    have j12 : j 71 12 = i 124 (131 + 14 * a) := by rw [hj, ty_up_j (by omega), ty_up_eq]
    have j13 : j 71 13 = i 124 (127 + 14 * a) := by rw [hj, ty_up_eq]
    have hd : Int.tdiv (i 124 (129 + 14 * a) + 59) 60 = (i 124 (129 + 14 * a) + 59) / 60 := Int.tdiv_eq_ediv_of_nonneg (by omega)
    have w1 : px_w32 (i 124 (129 + 14 * a) + 59) = i 124 (129 + 14 * a) + 59 := ty_w (by omega)
    have w2 : px_w32 (Int.tdiv (i 124 (129 + 14 * a) + 59) 60) = Int.tdiv (i 124 (129 + 14 * a) + 59) 60 := ty_w (by omega)
    have w3 : px_w32 (Int.tdiv (i 124 (129 + 14 * a) + 59) 60 * 10) = Int.tdiv (i 124 (129 + 14 * a) + 59) 60 * 10 := ty_w (by omega)
    have w4 : px_w32 (Int.tdiv (i 124 (129 + 14 * a) + 59) 60 * 10 + i 124 (127 + 14 * a)) = Int.tdiv (i 124 (129 + 14 * a) + 59) 60 * 10 + i 124 (127 + 14 * a) := ty_w (by omega)
    have hvals : ∀ v, 0 ≤ v → v < 15 → ty_may 2 v → v = 3 ∨ v = 6 ∨ v = 11 ∨ v = 12 ∨ v = 13 := fun v v0 v1 hv => by
      have := hv.2.2.1 rfl
      omega
    obtain ⟨i2, r2, c2⟩ := q71 (L := L) (t := t) hr d j l 2 999999 (Int.tdiv (i 124 (129 + 14 * a) + 59) 60 * 10 + i 124 (127 + 14 * a)) hLj (by omega) (fun v v0 v1 hv => by
      rcases hvals v v0 v1 hv with rfl | rfl | rfl | rfl | rfl
      · rw [j3]; omega
      · rw [j6]; omega
      · rw [j11]; omega
      · rw [j12]; omega
      · rw [j13]; omega)
    have el : ty_says j 2 999999 (Int.tdiv (i 124 (129 + 14 * a) + 59) 60 * 10 + i 124 (127 + 14 * a)) (j 71) = ty_bill i a := by
      unfold ty_bill
      rw [← ty_says_ch hL cj rfl]
      refine ty_says_env hLj (fun v v0 v1 hv => ?_)
      rcases hvals v v0 v1 hv with rfl | rfl | rfl | rfl | rfl
      · rw [j3]; rfl
      · rw [j6]; rfl
      · rw [j11]; rfl
      · rw [j12]; rfl
      · rw [j13]; rfl
    have cc : ty_ch [71, 72] i i2 := ty_ch_tr cj c2 rfl rfl
    have s1 : ∀ k, ¬ k = 71 → ∀ (f : MI) (x v : Int), px_up f 71 x v k = f k := fun k hk f x v => ty_up_row hk
    have n1 : ¬ 21 + a.toNat = 71 := by omega
    refine ⟨i2, ?_, cc, ty_LW_ch hL cc rfl, fun m m0 m1 => ?_, ?_, ?_⟩
    · rw [px_bi_T (hbit.mpr hb), if_neg (by omega), if_pos hb, q33i hr _ _ _ (px_s10 L) (Nat.le_of_ble_eq_true rfl) _ (by omega), Option.bind_some, px_psh_some, b69_42 hr _ _ _ _ hgs, g0.1, hwet.1, q34i hr _ _ _ (px_s71 L) (Nat.le_of_ble_eq_true rfl) _ _ (by omega), Option.bind_some, px_psh_none, b69_56 hr _ _ _ _ hgs, s1 _ n1, g4.1, q34i hr _ _ _ (px_s71 L) (Nat.le_of_ble_eq_true rfl) _ _ (by omega), Option.bind_some, px_psh_none, b69_69 hr _ _ _ _ hgs, q34i hr _ _ _ (px_s71 L) (Nat.le_of_ble_eq_true rfl) _ _ (by omega), Option.bind_some, px_psh_none, b69_80 hr _ _ _ _ hgs, q33i hr _ _ _ (px_s12 L) (Nat.le_of_ble_eq_true rfl) _ (by omega), s1 12 (by decide), s1 12 (by decide), s1 12 (by decide), hmov.1, Option.bind_some, px_psh_some, b69_94 hr _ _ _ _ hgs, q34i hr _ _ _ (px_s71 L) (Nat.le_of_ble_eq_true rfl) _ _ (by omega), Option.bind_some, px_psh_none, b69_97 hr _ _ _ _ hgs, s1 _ n1, s1 _ n1, s1 _ n1, s1 _ n1, g7.1, q34i hr _ _ _ (px_s71 L) (Nat.le_of_ble_eq_true rfl) _ _ (by omega), Option.bind_some, px_psh_none, b69_110 hr _ _ _ _ hgs, s1 _ n1, s1 _ n1, s1 _ n1, s1 _ n1, s1 _ n1, g7.1, w1, w2, w3, w4, ← hj, r2, el, Option.bind_some, px_psh_some, b69_133 hr _ _ _ _ (px_nl_R _)]
    · rw [cc 70 (by decide), ty_lev_ch hL cc rfl]
      exact hk m m0 m1
    · rw [cc 4 (by decide), cc 124 (by decide)]
      exact hsw
    · rw [cc 4 (by decide), cc 124 (by decide)]
      exact hso
  · refine ⟨i, ?_, ty_ch_rf, hV⟩
    rw [px_bi_F (fun h => hb h.2.2), if_pos rfl, if_neg hb]
theorem q204 (hr : px_hr r) (d : Nat) (i l : MI) (a : Int) (h : ty_V i) (ha : 0 ≤ a ∧ a < 10) (hcol : ∀ c : Int, 0 ≤ c → c < 9 → ty_col c (i 124 (120 + 14 * a + c))) (hw : ¬ i 124 (132 + 14 * a) = 0 → (0 ≤ i 124 (129 + 14 * a) ∧ i 124 (129 + 14 * a) ≤ 1440) ∧ (0 ≤ i 124 (131 + 14 * a) ∧ i 124 (131 + 14 * a) ≤ 1440)) :
    ∃ i1 l1 : MI, px_C (d + 4) 204 [vR 123, vI a] (px_sh L, i, l, r, t) = some (some (vI (if i 124 (132 + 14 * a) = 0 then 0 else ty_bill i a)), (px_sh L, i1, l1, r, t)) ∧ ty_ch [140] i i1 ∧ ty_ch [141] l l1 ∧ ty_V i1 := by
  have hV := h
  obtain ⟨hL, hk, hsw, hso⟩ := h
  have x12 : 120 + 14 * a + 12 = 132 + 14 * a := by omega
  have x0 : 120 + 14 * a + 0 = 120 + 14 * a := by omega
  have x4 : 120 + 14 * a + 4 = 124 + 14 * a := by omega
  have x9 : 120 + 14 * a + 9 = 129 + 14 * a := by omega
  have x11 : 120 + 14 * a + 11 = 131 + 14 * a := by omega
  have x7 : 120 + 14 * a + 7 = 127 + 14 * a := by omega
  have g0 := hcol 0 (by omega) (by omega)
  have g4 := hcol 4 (by omega) (by omega)
  have g7 := hcol 7 (by omega) (by omega)
  have c0 := g0.2.1 (by omega)
  have c4 := g4.2.1 (by omega)
  have c7 := g7.2.2.2.2.2 rfl
  have p0 := g0.1
  have p4 := g4.1
  have p7 := g7.1
  rw [x0] at c0 p0
  rw [x4] at c4 p4
  rw [x7] at c7 p7
  rw [e204, b204_0 hr, q146 hr _ _ _ _ _ ha (by omega), x12, Option.bind_some, px_psh_some, b204_7 hr]
  by_cases hb : i 124 (132 + 14 * a) = 0
  · refine ⟨i, l, ?_, ty_ch_rf, ty_ch_rf, hV⟩
    rw [if_pos hb, if_pos hb]
  · obtain ⟨hwet, hmov⟩ := hw hb
    obtain ⟨j, hj⟩ : ∃ j : MI, j = px_up (px_up (px_up (px_up (px_up i 140 3 (i 124 (120 + 14 * a))) 140 6 (i 124 (124 + 14 * a))) 140 11 (i 124 (129 + 14 * a))) 140 12 (i 124 (131 + 14 * a))) 140 13 (i 124 (127 + 14 * a)) := ⟨_, rfl⟩
    have cj : ty_ch [140] i j := by
      intro k hk
      have hk' : k ≠ 140 := fun e => hk (by rw [e]; exact List.mem_singleton.mpr rfl)
      rw [hj, ty_up_row hk', ty_up_row hk', ty_up_row hk', ty_up_row hk', ty_up_row hk']
    have hLj : ty_LW j := ty_LW_ch hL cj rfl
    have j3 : j 140 3 = i 124 (120 + 14 * a) := by rw [hj, ty_up_j (by omega), ty_up_j (by omega), ty_up_j (by omega), ty_up_j (by omega), ty_up_eq]
    have j6 : j 140 6 = i 124 (124 + 14 * a) := by rw [hj, ty_up_j (by omega), ty_up_j (by omega), ty_up_j (by omega), ty_up_eq]
    have j11 : j 140 11 = i 124 (129 + 14 * a) := by rw [hj, ty_up_j (by omega), ty_up_j (by omega), ty_up_eq]
    have j12 : j 140 12 = i 124 (131 + 14 * a) := by rw [hj, ty_up_j (by omega), ty_up_eq]
    have j13 : j 140 13 = i 124 (127 + 14 * a) := by rw [hj, ty_up_eq]
    have hd : Int.tdiv (i 124 (129 + 14 * a) + 59) 60 = (i 124 (129 + 14 * a) + 59) / 60 := Int.tdiv_eq_ediv_of_nonneg (by omega)
    have w1 : px_w32 (i 124 (129 + 14 * a) + 59) = i 124 (129 + 14 * a) + 59 := ty_w (by omega)
    have w2 : px_w32 (Int.tdiv (i 124 (129 + 14 * a) + 59) 60) = Int.tdiv (i 124 (129 + 14 * a) + 59) 60 := ty_w (by omega)
    have w3 : px_w32 (Int.tdiv (i 124 (129 + 14 * a) + 59) 60 * 10) = Int.tdiv (i 124 (129 + 14 * a) + 59) 60 * 10 := ty_w (by omega)
    have w4 : px_w32 (Int.tdiv (i 124 (129 + 14 * a) + 59) 60 * 10 + i 124 (127 + 14 * a)) = Int.tdiv (i 124 (129 + 14 * a) + 59) 60 * 10 + i 124 (127 + 14 * a) := ty_w (by omega)
    have hvals : ∀ v, 0 ≤ v → v < 15 → ty_may 2 v → v = 3 ∨ v = 6 ∨ v = 11 ∨ v = 12 ∨ v = 13 := fun v v0 v1 hv => by
      have := hv.2.2.1 rfl
      omega
    have he : ∀ v, 0 ≤ v → v < 15 → ty_may 2 v → -1000000 ≤ j 140 v ∧ j 140 v ≤ 1000000 := fun v v0 v1 hv => by
      rcases hvals v v0 v1 hv with rfl | rfl | rfl | rfl | rfl
      · rw [j3]; omega
      · rw [j6]; omega
      · rw [j11]; omega
      · rw [j12]; omega
      · rw [j13]; omega
    have s1 : ∀ (f : MI) (x v : Int), px_up f 140 x v 124 = f 124 := fun f x v => ty_up_row (by decide)
    have c124 : j 124 = i 124 := cj 124 (by decide)
    have ef : ty_fnd j 2 = ty_fnd i 2 := ty_fnd_ch hL cj rfl
    have head : px_X (d + 4) 204 (7, [vR 123, vI a], [vI (i 124 (132 + 14 * a))]) (px_sh L, i, l, r, t) = px_X (d + 4) 204 (84, [vR 123, vI a], [vI (if ty_fnd i 2 = -1 then 0 else 1)]) (px_sh L, j, l, r, t) := by
      rw [b204_7 hr, if_neg hb, q146 hr _ _ _ _ _ ha (by omega), x0, Option.bind_some, px_psh_some, b204_23 hr _ _ _ _ _ _ (by omega), q146 hr _ _ _ _ _ ha (by omega), x4, s1, Option.bind_some, px_psh_some, b204_36 hr _ _ _ _ _ _ (by omega), q146 hr _ _ _ _ _ ha (by omega), x9, s1, s1, Option.bind_some, px_psh_some, b204_50 hr _ _ _ _ _ _ (by omega), q146 hr _ _ _ _ _ ha (by omega), x11, s1, s1, s1, Option.bind_some, px_psh_some, b204_64 hr _ _ _ _ _ _ (by omega), q146 hr _ _ _ _ _ ha (by omega), x7, s1, s1, s1, s1, Option.bind_some, px_psh_some, b204_78 hr _ _ _ _ _ _ (by omega), ← hj, q187 hr _ _ _ _ hLj, ef, Option.bind_some, px_psh_some]
    rw [← b204_7 hr, head, b204_84 hr, if_neg hb]
    unfold ty_bill
    rw [ty_says_eq]
    have hVof : ∀ i2 : MI, ty_ch [140] i i2 → ty_V i2 := fun i2 cc => ⟨ty_LW_ch hL cc rfl, fun m m0 m1 => by
      rw [cc 70 (by decide), ty_lev_ch hL cc rfl]
      exact hk m m0 m1, by
      rw [cc 4 (by decide), cc 124 (by decide)]
      exact hsw, by
      rw [cc 4 (by decide), cc 124 (by decide)]
      exact hso⟩
    by_cases hf : ty_fnd i 2 = -1
    · refine ⟨j, l, ?_, cj, ty_ch_rf, hVof j cj⟩
      rw [if_pos hf, if_pos hf, if_pos rfl, q146 hr _ _ _ _ _ ha (by omega), x9, c124, Option.bind_some, px_psh_some, b204_109 hr, q146 hr _ _ _ _ _ ha (by omega), x7, c124, w1, w2, w3, Option.bind_some, px_psh_some, b204_125 hr, w4]
    · obtain ⟨l2, r2, c2⟩ := q188 (L := L) (t := t) hr d j l 2 0 hLj (by omega) he
      have ev : ty_vl j (ty_fnd j 2) (j 140) = ty_vl i (ty_fnd i 2) (fun v => if v = 3 then i 124 (120 + 14 * a) else if v = 6 then i 124 (124 + 14 * a) else if v = 11 then i 124 (129 + 14 * a) else if v = 12 then i 124 (131 + 14 * a) else i 124 (127 + 14 * a)) := by
        rw [ty_vl_c hLj (by rw [ef]; exact hf) (env := fun v => if v = 3 then i 124 (120 + 14 * a) else if v = 6 then i 124 (124 + 14 * a) else if v = 11 then i 124 (129 + 14 * a) else if v = 12 then i 124 (131 + 14 * a) else i 124 (127 + 14 * a)) (fun v v0 v1 hv => ?_), ef, ty_vl_ch hL (ty_fnd_0 hf) cj rfl]
        rcases hvals v v0 v1 hv with rfl | rfl | rfl | rfl | rfl
        · rw [j3]; rfl
        · rw [j6]; rfl
        · rw [j11]; rfl
        · rw [j12]; rfl
        · rw [j13]; rfl
      refine ⟨j, l2, ?_, cj, c2, hVof j cj⟩
      rw [if_neg hf, if_neg hf, if_neg (by omega), r2, if_neg (by rw [ef]; exact hf), ev, Option.bind_some, px_psh_some, b204_93 hr, q190 hr _ _ _ _ _ (by omega), Option.bind_some, px_psh_some, b204_99 hr]
end TYO
theorem ty_bill_ch {S : List Nat} {i i' : MI} {a : Int} (hL : ty_LW i) (hc : ty_ch S i i') (hS : S.all (fun k => decide (k ≠ 4 ∧ (k < 73 ∨ 103 ≤ k))) = true) (h124 : i' 124 = i 124) : ty_bill i' a = ty_bill i a := by
  unfold ty_bill
  rw [h124, ty_says_ch hL hc hS]
/-- told -/
theorem ok_told (a b : Int) : ty_ok ty_CR 15 205 [vI a, vI b] := by
  intro L t r hr n d i l hn hc
  have hc' := ty_CR_mono hc
  have hV := ty_V_CR hc
  have hcc := hc
  obtain ⟨hD, h0, h27, hT, hY⟩ := hc
  obtain ⟨hb, hs, hp, hg, ho, hh, hl, n1, n2, n3, n4, n5⟩ := h0
  have b4 := hs.2.2.2.1
  have e46 : i 4 6 = i 124 4 := b4.1
  have n2' : i 9 1 = i 124 9 := n2.1
  have n3' : 0 ≤ i 9 2 ∧ i 9 2 < 1024 := n3
  show ∃ (v : Int) (i1 l1 i2 l2 : MI), px_C (d + 35 + 4 + 1) 15 [vR 3, vI a, vI b] _ = _ ∧ px_C (d + 35 + 4 + 1) 205 [vR 123, vI a, vI b] _ = _ ∧ _
  rw [e15, b15_0 hr]
  by_cases hb4 : b = 4
  · refine ⟨i 9 1, i, l, i, l, by rw [if_pos hb4], ?_, hc', rfl, rfl⟩
    rw [e205, b205_0 hr, if_pos hb4, n2']
  · rw [if_neg hb4]
    by_cases ha : 0 ≤ a ∧ a < i 124 4
    · have hgs : px_gs (21 + a.toNat) := px_gs_mk21 (by omega)
      have hng := (n4 a ha.1 (by omega)).2 ha.2
      have hwas : i 124 (132 + 14 * a) = (if ty_bit (i 9 2) a = true then 1 else 0) := hng.1
      have w0 : i 10 a = i 124 (129 + 14 * a) ∧ 0 ≤ i 124 (129 + 14 * a) ∧ i 124 (129 + 14 * a) ≤ 1440 := hng.2.1
      have w1 : i 11 a = i 124 (130 + 14 * a) ∧ 0 ≤ i 124 (130 + 14 * a) ∧ i 124 (130 + 14 * a) ≤ 1440 := hng.2.2.1
      have w2 : i 12 a = i 124 (131 + 14 * a) ∧ 0 ≤ i 124 (131 + 14 * a) ∧ i 124 (131 + 14 * a) ≤ 1440 := hng.2.2.2
      have hguest : ∀ c : Int, 0 ≤ c → c < 9 → i (21 + a.toNat) c = i 124 (120 + 14 * a + c) ∧ ty_col c (i 124 (120 + 14 * a + c)) := hg a ha.1 ha.2
      rw [q52R hr _ _ _ _ (by omega), Option.bind_some, px_psh_some, b15_24_g hr _ _ _ _ _ hgs]
      have href : ∀ j m : MI, j 124 = i 124 → j 4 6 = i 4 6 → px_X (d + 35 + 4 + 1) 205 (0, [vR 123, vI a, vI b], []) (px_sh L, j, m, r, t) = px_X (d + 35 + 4 + 1) 205 (27, [vR 123, vI a, vI b], [vI (px_bi (0 ≤ b ∧ b ≤ 3))]) (px_sh L, j, m, r, t) := fun j m h1 h2 => by
        rw [b205_0 hr, if_neg hb4, q144 hr _ _ _ _ (by rw [h1]; omega), h1, Option.bind_some, px_psh_some, b205_18 hr, px_bi_T ha, if_neg (by omega), q141 hr, Option.bind_some, px_psh_some]
      by_cases h3 : b = 3
      · obtain ⟨i1, r1, c1, v1⟩ := q69 (L := L) (t := t) hr (d + 35) i l a hV (by omega) hguest n3' (fun _ => ⟨w0, w2⟩)
        have c124 : i1 124 = i 124 := c1 124 (by decide)
        obtain ⟨i2, l2, r2, c2, c2l, v2⟩ := q204 (L := L) (t := t) hr (d + 35) i1 l a v1 (by omega) (by rw [c124]; exact fun c c0 c1 => (hguest c c0 c1).2) (by rw [c124]; exact fun _ => ⟨w0.2, w2.2⟩)
        have cc : ty_ch [71, 72, 140] i i2 := ty_ch_tr c1 c2 rfl rfl
        refine ⟨(if ty_bit (i 9 2) a = true then ty_bill i a else 0), i1, l, i2, l2, ?_, ?_, ty_CR_same hcc (ty_same_ch cc rfl) (c2l 19 (by decide)) (c2l 46 (by decide)) v2.2.1 ?_ (fun x x0 x1 => ?_), c1 0 (by decide), cc 0 (by decide)⟩
        · rw [if_neg (by omega), if_neg (by omega), if_neg (by omega), if_pos h3, r1, Option.bind_some, px_psh_some, b15_113 hr]
        · rw [e205, href i1 l c124 (by rw [c1 4 (by decide)]), b205_27 hr, px_bi_T (by omega), if_neg (by omega), if_pos h3, r2, Option.bind_some, px_psh_some, b205_43 hr, c124, hwas, ty_bill_ch hV.1 c1 rfl c124]
          by_cases hx : ty_bit (i 9 2) a = true
          · rw [if_pos hx, if_pos hx, if_neg (by omega)]
          · rw [if_neg hx, if_neg hx, if_pos rfl]
        · rw [cc 103 (by decide)]
          have := hY.2.2.2.1
          omega
        · rw [cc 103 (by decide), cc 108 (by decide)]
          exact hY.2.2.2.2 x x0 x1
      · have hof : ∀ c : Int, 0 ≤ c ∧ c < 14 → px_C (d + 35 + 4) 146 [vR 123, vI a, vI c] (px_sh L, i, l, r, t) = some (some (vI (i 124 (120 + 14 * a + c))), (px_sh L, i, l, r, t)) := fun c h => q146 hr _ _ _ _ _ (by omega) h
        by_cases hq0 : b = 0
        · refine ⟨i 10 a, i, l, i, l, ?_, ?_, hc', rfl, rfl⟩
          · rw [if_pos hq0, q33i hr _ _ _ (px_s10 L) (Nat.le_of_ble_eq_true rfl) _ (by omega), Option.bind_some, px_psh_some, b15_74 hr]
          · rw [e205, href i l rfl rfl, b205_27 hr, px_bi_T (by omega), if_neg (by omega), if_neg h3, ty_w (by omega), hof _ (by omega), Option.bind_some, px_psh_some, b205_55 hr, w0.1, hq0]
            congr 5
            omega
        · by_cases hq1 : b = 1
          · refine ⟨i 11 a, i, l, i, l, ?_, ?_, hc', rfl, rfl⟩
            · rw [if_neg hq0, if_pos hq1, q33i hr _ _ _ (px_s11 L) (Nat.le_of_ble_eq_true rfl) _ (by omega), Option.bind_some, px_psh_some, b15_89 hr]
            · rw [e205, href i l rfl rfl, b205_27 hr, px_bi_T (by omega), if_neg (by omega), if_neg h3, ty_w (by omega), hof _ (by omega), Option.bind_some, px_psh_some, b205_55 hr, w1.1, hq1]
              congr 5
              omega
          · by_cases hq2 : b = 2
            · refine ⟨i 12 a, i, l, i, l, ?_, ?_, hc', rfl, rfl⟩
              · rw [if_neg hq0, if_neg hq1, if_pos hq2, q33i hr _ _ _ (px_s12 L) (Nat.le_of_ble_eq_true rfl) _ (by omega), Option.bind_some, px_psh_some, b15_104 hr]
              · rw [e205, href i l rfl rfl, b205_27 hr, px_bi_T (by omega), if_neg (by omega), if_neg h3, ty_w (by omega), hof _ (by omega), Option.bind_some, px_psh_some, b205_55 hr, w2.1, hq2]
                congr 5
                omega
            · refine ⟨-2, i, l, i, l, ?_, ?_, hc', rfl, rfl⟩
              · rw [if_neg hq0, if_neg hq1, if_neg hq2, if_neg h3]
              · rw [e205, href i l rfl rfl, b205_27 hr, px_bi_F (by omega), if_pos rfl]
    · refine ⟨-2, i, l, i, l, ?_, ?_, hc', rfl, rfl⟩
      · rw [q52N hr _ _ _ _ (by omega), Option.bind_some, px_psh_some, b15_24_N hr]
      · rw [e205, b205_0 hr, if_neg hb4, q144 hr _ _ _ _ (by omega), Option.bind_some, px_psh_some, b205_18 hr, px_bi_F ha, if_pos rfl]
