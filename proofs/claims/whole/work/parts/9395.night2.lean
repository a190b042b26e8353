/-! Quarrels: the class's (68), the reference's (200). -/
def tn_qe (i : MI) (m g h : Int) : Int → Int := fun v => if v = 0 then m else if v = 3 then i 124 (120 + 14 * g) else if v = 5 then i 124 (123 + 14 * g) else i 124 (120 + 14 * h)
def tn_qu (i : MI) (m g h : Int) : Bool := ty_sov i 5 (tn_qe i m g h)
theorem tn_qe_b {i : MI} (hQ : ty_Q i) {m g h : Int} (hm : 0 ≤ m ∧ m < 1440) (hg : 0 ≤ g ∧ g < i 124 4) (hh : 0 ≤ h ∧ h < i 124 4) (v : Int) : -1000000 ≤ tn_qe i m g h v ∧ tn_qe i m g h v ≤ 1000000 := by
  have c0 := (hQ.2.2.2.2.1 g hg.1 hg.2 0 (by omega) (by omega)).2
  have c3 := (hQ.2.2.2.2.1 g hg.1 hg.2 3 (by omega) (by omega)).2
  have d0 := (hQ.2.2.2.2.1 h hh.1 hh.2 0 (by omega) (by omega)).2
  have a0 := c0.2.1 (by omega)
  have a3 := c3.2.1 (by omega)
  have a1 := d0.2.1 (by omega)
  have p0 := c0.1
  have p3 := c3.1
  have p1 := d0.1
  rw [show 120 + 14 * g + 0 = 120 + 14 * g by omega] at a0 p0
  rw [show 120 + 14 * h + 0 = 120 + 14 * h by omega] at a1 p1
  rw [show 120 + 14 * g + 3 = 123 + 14 * g by omega] at a3 p3
  unfold tn_qe
  by_cases e0 : v = 0
  · rw [if_pos e0]; omega
  · rw [if_neg e0]
    by_cases e3 : v = 3
    · rw [if_pos e3]; omega
    · rw [if_neg e3]
      by_cases e5 : v = 5
      · rw [if_pos e5]; omega
      · rw [if_neg e5]; omega
theorem tn_qu_fp {i i' : MI} (hQ : ty_Q i) (hf : tn_fp i i') {m g h : Int} (hg : 0 ≤ g ∧ g < 10) (hh : 0 ≤ h ∧ h < 10) : tn_qu i' m g h = tn_qu i m g h := by
  have a0 := hf.2 _ (tn_nt_g (g := g) (c := 0) hg.1 hg.2 (by omega))
  have a3 := hf.2 _ (tn_nt_g (g := g) (c := 3) hg.1 hg.2 (by omega))
  have b0 := hf.2 _ (tn_nt_g (g := h) (c := 0) hh.1 hh.2 (by omega))
  rw [show 120 + 14 * g + 0 = 120 + 14 * g by omega] at a0
  rw [show 120 + 14 * g + 3 = 123 + 14 * g by omega] at a3
  rw [show 120 + 14 * h + 0 = 120 + 14 * h by omega] at b0
  unfold tn_qu
  have ee : tn_qe i' m g h = tn_qe i m g h := by
    unfold tn_qe
    rw [a0, a3, b0]
  rw [ee, tn_sov hQ hf]
section TNQ
variable {L t : Nat} {r : MR}
theorem tn_68_n (hr : px_hr r) (d : Nat) (l : MI) (q : Nat) (h6 : q < 6) (x1 x2 : Int) (v3 v4 : PV) (hn3 : px_nl v3) (hn4 : px_nl v4) (env : Int → Int) (h1 : ∀ v, 0 ≤ v → v < 15 → ty_may 5 v → -1000000 ≤ env v ∧ env v ≤ 1000000) : ∀ (n : Nat) (i : MI) (k : Int), ty_tx i q → (∀ v, 0 ≤ v → v < 15 → ty_may 5 v → i 71 v = env v) → 0 ≤ k → k + n = i (73 + 5 * q) 1 →
    ∃ i1 : MI, px_X (d + 2) 68 (89, [vR 68, vI x1, vI x2, v3, v4, vR (73 + 5 * q), vI k], []) (px_sh L, i, l, r, t) = some (some (vI (ty_b (ty_so i q 5 env n k))), (px_sh L, i1, l, r, t)) ∧ ty_ch [72] i i1
  | 0, i, k, ht, he, h0, hk => by
    have htx : px_tx (73 + 5 * q) := by unfold px_tx; omega
    refine ⟨i, ?_, ty_ch_rf⟩
    rw [b68_89 hr _ _ _ _ _ hn3 hn4 htx, if_pos (by omega)]
    rfl
  | n + 1, i, k, ht, he, h0, hk => by
    have htx : px_tx (73 + 5 * q) := by unfold px_tx; omega
    have hc := ht.1
    have hcc := ht.2.1 k h0 (by omega)
    have w3 : px_w32 (k + 1) = k + 1 := ty_w (by omega)
    have e2 : 73 + 5 * q + 2 = 75 + 5 * q := by omega
    have es : ty_so i q 5 env (n + 1) k = ((decide (i (75 + 5 * q) k = 5) && decide (0 < ty_val i (73 + 5 * q) k env)) || ty_so i q 5 env n (k + 1)) := rfl
    have hgood := ty_good_cl (i := i) (q := q) (k := k) (by omega) hcc
    have step : px_X (d + 2) 68 (89, [vR 68, vI x1, vI x2, v3, v4, vR (73 + 5 * q), vI k], []) (px_sh L, i, l, r, t) = px_X (d + 2) 68 (116, [vR 68, vI x1, vI x2, v3, v4, vR (73 + 5 * q), vI k], [vI (i (75 + 5 * q) k)]) (px_sh L, i, l, r, t) := by
      rw [b68_89 hr _ _ _ _ _ hn3 hn4 htx, if_neg (by omega), if_neg (by omega), q33i hr _ _ _ (px_tx_s2 htx) (px_tx_g htx 2) _ (by omega), Option.bind_some, px_psh_some, e2]
    rw [step, es, b68_116 hr _ _ _ _ _ hn3 hn4 htx, w3]
    by_cases k5 : i (75 + 5 * q) k = 5
    · obtain ⟨i1, r1, c1⟩ := q72 (L := L) (t := t) hr htx d i l k hgood (ty_eok_of hcc (by rw [k5]; exact fun v v0 v1 hv => by rw [he v v0 v1 hv]; exact h1 v v0 v1 hv))
      have ev : ty_val i (73 + 5 * q) k (i 71) = ty_val i (73 + 5 * q) k env := ty_val_c hcc (by rw [k5]; exact he)
      have hvb := (ty_val_b (i := i) (q := q) (k := k) (by omega) hcc (env := env) (ty_eok_of hcc (by rw [k5]; exact fun v v0 v1 hv => h1 v v0 v1 hv))).2.2 (by omega)
      have hk2 : ∀ k, 73 ≤ k → i1 k = i k := fun k k0 => c1 k (by simp only [List.mem_singleton]; omega)
      rw [if_pos k5, r1, ev, Option.bind_some, px_psh_some, b68_128 hr _ _ _ _ _ hn3 hn4 htx, w3, decide_eq_true k5, Bool.true_and]
      by_cases hv : ty_val i (73 + 5 * q) k env = 0
      · obtain ⟨i2, r2, c2⟩ := tn_68_n hr d l q h6 x1 x2 v3 v4 hn3 hn4 env h1 n i1 (k + 1) (ty_tx_c (fun k k0 k1 => hk2 k (by omega)) (hk2 _ (by omega)) (hk2 _ (by omega)) (hk2 _ (by omega)) (hk2 _ (by omega)) (hk2 _ (by omega)) ht) (by rw [c1 71 (by decide)]; exact he) (by omega) (by rw [hk2 _ (by omega)]; omega)
        refine ⟨i2, ?_, ty_ch_tr c1 c2 rfl rfl⟩
        rw [if_pos hv, r2, ty_so_ch (fun k k0 k1 => hk2 k (by omega)) n (k + 1), decide_eq_false (show ¬ 0 < ty_val i (73 + 5 * q) k env by omega), Bool.false_or]
      · refine ⟨i1, ?_, c1⟩
        rw [if_neg hv, decide_eq_true (show 0 < ty_val i (73 + 5 * q) k env by omega), Bool.true_or]
        rfl
    · obtain ⟨i2, r2, c2⟩ := tn_68_n hr d l q h6 x1 x2 v3 v4 hn3 hn4 env h1 n i (k + 1) ht he (by omega) (by omega)
      refine ⟨i2, ?_, c2⟩
      rw [if_neg k5, r2, decide_eq_false k5, Bool.false_and, Bool.false_or]
theorem tn_68 (hr : px_hr r) (d : Nat) (i l : MI) (m g h : Int) (hT : ty_T2 i m) (hg : 0 ≤ g ∧ g < i 124 4) (hh : 0 ≤ h ∧ h < i 124 4) :
    ∃ i1 : MI, px_C (d + 2) 68 [vR 68, vI g, vI h] (px_sh L, i, l, r, t) = some (some (vI (ty_b (tn_qu i m g h))), (px_sh L, i1, l, r, t)) ∧ ty_ch [71, 72] i i1 ∧ ty_T2 i1 m := by
  have hT' := hT
  obtain ⟨hQ, t1, t2, t3, t4, t5⟩ := hT'
  have hQ' := hQ
  obtain ⟨hV, hq1, hq2, hq3, hq4, hq5⟩ := hQ'
  obtain ⟨hL, -, -, -⟩ := hV
  have hL' := hL
  obtain ⟨h1, h2, h3, h4⟩ := hL'
  have hgs : px_gs (21 + g.toNat) := px_gs_mk21 (by omega)
  have hhs : px_gs (21 + h.toNat) := px_gs_mk21 (by omega)
  have head : px_C (d + 2) 68 [vR 68, vI g, vI h] (px_sh L, i, l, r, t) = (px_C (d + 1) 64 [vR 68, vI (i 4 8)] (px_sh L, i, l, r, t)).bind (fun q => px_X (d + 1 + 1) 68 (px_psh (30, [vR 68, vI g, vI h, vR (21 + g.toNat), vR (21 + h.toNat), vJ, vJ], []) q.1) q.2) := by
    rw [e68, b68_0 hr, q52R hr _ _ _ _ (by omega), Option.bind_some, px_psh_some, b68_8_g hr _ _ _ _ _ hgs, q52R hr _ _ _ _ (by omega), Option.bind_some, px_psh_some, b68_17_g3g hr _ _ _ _ _ hgs hhs]
  by_cases hn : i 4 8 = -1
  · refine ⟨i, ?_, ty_ch_rf, hT⟩
    have e1 : tn_qu i m g h = false := if_pos hn
    rw [head, e64, b64_0 hr _ _ _ _ (by omega), if_pos (by omega), Option.bind_some, px_psh_some, b68_30_N3g4g hr _ _ _ _ _ hgs hhs, e1]
    rfl
  · have ht := h4 (by omega)
    rw [← h1] at ht
    have hc := ht.1
    obtain ⟨q, hq⟩ : ∃ q : Nat, q = (i 4 8).toNat := ⟨_, rfl⟩
    rw [← hq] at ht hc
    have htx : px_tx (73 + 5 * q) := by unfold px_tx; omega
    have g0 := (hq4 g hg.1 hg.2 0 (by omega) (by omega)).1
    have g3 := (hq4 g hg.1 hg.2 3 (by omega) (by omega)).1
    have k0 := (hq4 h hh.1 hh.2 0 (by omega) (by omega)).1
    rw [show 120 + 14 * g + 0 = 120 + 14 * g by omega, show 21 + 0 + g.toNat = 21 + g.toNat by omega] at g0
    rw [show 120 + 14 * g + 3 = 123 + 14 * g by omega, show 21 + 0 + g.toNat = 21 + g.toNat by omega] at g3
    rw [show 120 + 14 * h + 0 = 120 + 14 * h by omega, show 21 + 0 + h.toNat = 21 + h.toNat by omega] at k0
    obtain ⟨j, hj⟩ : ∃ j : MI, j = px_up (px_up (px_up i 71 3 (i 124 (120 + 14 * g))) 71 5 (i 124 (123 + 14 * g))) 71 10 (i 124 (120 + 14 * h)) := ⟨_, rfl⟩
    have cj : ty_ch [71] i j := by
      intro k hk
      have hk' : k ≠ 71 := fun e => hk (by rw [e]; exact List.mem_singleton.mpr rfl)
      rw [hj, ty_up_row hk', ty_up_row hk', ty_up_row hk']
    have s1 : ∀ k, ¬ k = 71 → ∀ (f : MI) (x v : Int), px_up f 71 x v k = f k := fun k hk f x v => ty_up_row hk
    have n1 : ¬ 21 + g.toNat = 71 := by omega
    have n2 : ¬ 21 + h.toNat = 71 := by omega
    have j0 : j 71 0 = m := by rw [hj, ty_up_j (by omega), ty_up_j (by omega), ty_up_j (by omega), t2]
    have j8 : j 71 8 = ty_lev i m := by rw [hj, ty_up_j (by omega), ty_up_j (by omega), ty_up_j (by omega), t3]
    have jv : ∀ v, 0 ≤ v → v < 15 → ty_may 5 v → j 71 v = tn_qe i m g h v := fun v v0 v1 hv => by
      rcases hv.2.2.2.2.2 rfl with rfl | rfl | rfl | rfl
      · rw [j0]; rfl
      · rw [hj, ty_up_j (by omega), ty_up_j (by omega), ty_up_eq]; rfl
      · rw [hj, ty_up_j (by omega), ty_up_eq]; rfl
      · rw [hj, ty_up_eq]; rfl
    have htj : ty_tx j q := ty_tx_c (fun k k0 k1 => cj k (by simp only [List.mem_singleton]; omega)) (cj _ (by decide)) (cj _ (by decide)) (cj _ (by decide)) (cj _ (by decide)) (cj _ (by decide)) ht
    have hcj : j (73 + 5 * q) = i (73 + 5 * q) := cj _ (by simp only [List.mem_singleton]; omega)
    obtain ⟨i2, r2, c2⟩ := tn_68_n (L := L) (t := t) hr d l q (by omega) g h (vR (21 + g.toNat)) (vR (21 + h.toNat)) (px_nl_R _) (px_nl_R _) (tn_qe i m g h) (fun v _ _ _ => tn_qe_b hQ t1 hg hh v) (i (73 + 5 * q) 1).toNat j 0 htj jv (by omega) (by rw [hcj]; omega)
    have e1 : tn_qu i m g h = ty_so j q 5 (tn_qe i m g h) (i (73 + 5 * q) 1).toNat 0 := by
      unfold tn_qu ty_sov
      rw [if_neg hn, ← hq]
      exact (ty_so_ch (fun k k0 k1 => cj k (by simp only [List.mem_singleton]; omega)) _ _).symm
    have cc : ty_ch [71, 72] i i2 := ty_ch_tr cj c2 rfl rfl
    refine ⟨i2, ?_, cc, tn_T2_71 hT cc (by rw [c2 71 (by decide), j0, t2]) (by rw [c2 71 (by decide), j8, t3])⟩
    rw [head, e64, b64_0 hr _ _ _ _ (by omega), if_neg (by omega), if_neg (by omega), ← hq, Option.bind_some, px_psh_some, b68_30_t3g4g hr _ _ _ _ _ hgs hhs htx, g0, q34i hr _ _ _ (px_s71 L) (Nat.le_of_ble_eq_true rfl) _ _ (by omega), Option.bind_some, px_psh_none]
    rw [b68_60 hr _ _ _ _ _ hgs hhs htx, s1 _ n1, g3, q34i hr _ _ _ (px_s71 L) (Nat.le_of_ble_eq_true rfl) _ _ (by omega), Option.bind_some, px_psh_none, b68_72 hr _ _ _ _ _ (px_nl_R _) hhs htx, s1 _ n2, s1 _ n2, k0, q34i hr _ _ _ (px_s71 L) (Nat.le_of_ble_eq_true rfl) _ _ (by omega), Option.bind_some, px_psh_none, b68_86 hr _ _ _ _ _ (px_nl_R _) (px_nl_R _) htx, ← hj, r2, e1]
theorem tn_200 (hr : px_hr r) (d : Nat) (i l : MI) (m g h : Int) (hQ : ty_Q i) (hm : 0 ≤ m ∧ m < 1440) (hg : 0 ≤ g ∧ g < i 124 4) (hh : 0 ≤ h ∧ h < i 124 4) :
    ∃ i1 l1 : MI, px_C (d + 3 + 1) 200 [vR 123, vI g, vI h, vI m] (px_sh L, i, l, r, t) = some (some (vI (ty_b (tn_qu i m g h))), (px_sh L, i1, l1, r, t)) ∧ ty_ch [140] i i1 ∧ ty_ch [141] l l1 := by
  have b4 := hQ.2.1.2
  obtain ⟨j, hj⟩ : ∃ j : MI, j = px_up (px_up (px_up (px_up i 140 0 m) 140 3 (i 124 (120 + 14 * g))) 140 5 (i 124 (123 + 14 * g))) 140 10 (i 124 (120 + 14 * h)) := ⟨_, rfl⟩
  have cj : ty_ch [140] i j := by
    intro k hk
    have hk' : k ≠ 140 := fun e => hk (by rw [e]; exact List.mem_singleton.mpr rfl)
    rw [hj, ty_up_row hk', ty_up_row hk', ty_up_row hk', ty_up_row hk']
  have jv : ∀ v, 0 ≤ v → v < 15 → ty_may 5 v → j 140 v = tn_qe i m g h v := fun v v0 v1 hv => by
    rcases hv.2.2.2.2.2 rfl with rfl | rfl | rfl | rfl
    · rw [hj, ty_up_j (by omega), ty_up_j (by omega), ty_up_j (by omega), ty_up_eq]; rfl
    · rw [hj, ty_up_j (by omega), ty_up_j (by omega), ty_up_eq]; rfl
    · rw [hj, ty_up_j (by omega), ty_up_eq]; rfl
    · rw [hj, ty_up_eq]; rfl
  have hLj : ty_LW j := ty_LW_ch hQ.1.1 cj rfl
  obtain ⟨l1, r1, c1⟩ := q189 (L := L) (r := r) (t := t) hr d j l 5 hLj (fun v v0 v1 hv => by
    rw [jv v v0 v1 hv]
    exact tn_qe_b hQ hm hg hh v)
  have e1 : ty_sov j 5 (j 140) = tn_qu i m g h := by
    unfold tn_qu
    rw [ty_sov_c hLj jv]
    exact ty_sov_ch hQ.1.1 cj rfl
  rw [e1] at r1
  have e2 : (if tn_qu i m g h = true then (1 : Int) else 0) = ty_b (tn_qu i m g h) := by
    cases tn_qu i m g h <;> rfl
  rw [e2] at r1
  refine ⟨j, l1, ?_, cj, c1⟩
  have u : ∀ (f : MI) (x v : Int), px_up f 140 x v 124 = f 124 := fun f x v => ty_up_row (by decide)
  rw [e200, b200_0 hr, q146 hr _ _ _ _ _ (by omega) (by omega), Option.bind_some, px_psh_some, b200_18 hr _ _ _ _ _ _ _ _ (by omega), q146 hr _ _ _ _ _ (by omega) (by omega), Option.bind_some, px_psh_some, b200_30 hr _ _ _ _ _ _ _ _ (by omega), q146 hr _ _ _ _ _ (by omega) (by omega), Option.bind_some, px_psh_some, b200_43 hr _ _ _ _ _ _ _ _ (by omega)]
  simp only [u]
  rw [show 120 + 14 * g + 0 = 120 + 14 * g by omega, show 120 + 14 * g + 3 = 123 + 14 * g by omega, show 120 + 14 * h + 0 = 120 + 14 * h by omega, ← hj, r1, Option.bind_some, px_psh_some, b200_49 hr _ _ _ _ _ _ _ (ty_b_01 _)]
end TNQ
