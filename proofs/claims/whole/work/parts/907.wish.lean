/-! Wishes: wishOf (67), wishFor (125), turnTo (121), standAt (66). -/
/-- the names of a wish: minute, guest, perch, how many sit there -/
def ty_we (i : MI) (m g p w : Int) : Int → Int := fun v => if v = 0 then m else if v = 3 then i 124 (120 + 14 * g) else if v = 4 then i 124 (122 + 14 * g) else if v = 5 then i 124 (123 + 14 * g) else if v = 6 then i 124 (124 + 14 * g) else if v = 7 then i 124 (100 + 2 * p) else if v = 8 then ty_lev i m else w
/-- the wish; barred: the least int -/
def ty_wish (i : MI) (m g p w : Int) : Int := if ty_sov i 4 (ty_we i m g p w) = true then -2000000 else if ty_fnd i 1 = -1 then i 124 (100 + 2 * p) else ty_vl i (ty_fnd i 1) (ty_we i m g p w)
theorem ty_so_ch {i i' : MI} {q : Nat} {kind : Int} {env : Int → Int} (h : ∀ k, 73 + 5 * q ≤ k → k < 78 + 5 * q → i' k = i k) : ∀ (n : Nat) (k : Int), ty_so i' q kind env n k = ty_so i q kind env n k
  | 0, _ => rfl
  | n + 1, k => by
    unfold ty_so
    rw [ty_so_ch h n (k + 1), h (75 + 5 * q) (by omega) (by omega)]
    unfold ty_val
    rw [ty_codes_c (h _ (by omega) (by omega)) (h _ (by omega) (by omega)) (h _ (by omega) (by omega))]
theorem ty_sov_ch {S : List Nat} {i i' : MI} {kind : Int} {env : Int → Int} (hL : ty_LW i) (hc : ty_ch S i i') (hS : S.all (fun k => decide (k ≠ 4 ∧ (k < 73 ∨ 103 ≤ k))) = true) : ty_sov i' kind env = ty_sov i kind env := by
  have hm : ∀ k, k ∈ S → k ≠ 4 ∧ (k < 73 ∨ 103 ≤ k) := fun k hk => of_decide_eq_true (List.all_eq_true.mp hS k hk)
  have h4 := hc 4 (fun hk => (hm _ hk).1 rfl)
  have hb1 := hL.1
  have hb2 := hL.2.1
  have hb3 := hL.2.2.1
  unfold ty_sov
  rw [h4]
  by_cases h8 : i 4 8 = -1
  · rw [if_pos h8, if_pos h8]
  · rw [if_neg h8, if_neg h8, hc (73 + 5 * (i 4 8).toNat) (fun hk => by have := hm _ hk; omega)]
    exact ty_so_ch (fun k k0 k1 => hc k (fun hk => by have := hm _ hk; omega)) _ _
theorem ty_wish_ch {S : List Nat} {i i' : MI} {m g p w : Int} (hL : ty_LW i) (hc : ty_ch S i i') (hS : S.all (fun k => decide (k ≠ 4 ∧ k ≠ 124 ∧ (k < 73 ∨ 103 ≤ k))) = true) : ty_wish i' m g p w = ty_wish i m g p w := by
  have hm : ∀ k, k ∈ S → k ≠ 4 ∧ k ≠ 124 ∧ (k < 73 ∨ 103 ≤ k) := fun k hk => of_decide_eq_true (List.all_eq_true.mp hS k hk)
  have hS' : S.all (fun k => decide (k ≠ 4 ∧ (k < 73 ∨ 103 ≤ k))) = true := List.all_eq_true.mpr (fun k hk => by have := hm _ hk; exact decide_eq_true (by omega))
  have r124 : i' 124 = i 124 := hc 124 (fun hk => (hm _ hk).2.1 rfl)
  have ee : ty_we i' m g p w = ty_we i m g p w := by
    unfold ty_we
    rw [r124, ty_lev_ch hL hc hS']
  unfold ty_wish
  rw [ee, ty_sov_ch hL hc hS', ty_fnd_ch hL hc hS', r124]
  by_cases h : ty_fnd i 1 = -1
  · rw [if_pos h, if_pos h]
  · rw [if_neg h, if_neg h, ty_vl_ch hL (ty_fnd_0 h) hc hS']
theorem ty_we_b {i : MI} (hQ : ty_Q i) {m g p w : Int} (hm : 0 ≤ m ∧ m < 1440) (hg : 0 ≤ g ∧ g < i 124 4) (hp : 0 ≤ p ∧ p < i 124 3) (hw : 0 ≤ w ∧ w < 4) (v : Int) : -1000000 ≤ ty_we i m g p w v ∧ ty_we i m g p w v ≤ 1000000 := by
  obtain ⟨hV, h1, h2, h3, h4, h5⟩ := hQ
  have hl := ty_lev_b (i := i) hm.1
  have c0 := (h4 g hg.1 hg.2 0 (by omega) (by omega)).2
  have c2 := (h4 g hg.1 hg.2 2 (by omega) (by omega)).2
  have c3 := (h4 g hg.1 hg.2 3 (by omega) (by omega)).2
  have c4 := (h4 g hg.1 hg.2 4 (by omega) (by omega)).2
  have d0 := c0.2.1 (by omega)
  have d2 := c2.2.2.2.1 (by omega)
  have d3 := c3.2.1 (by omega)
  have d4 := c4.2.1 (by omega)
  have p0 := c0.1
  have p2 := c2.1
  have p3 := c3.1
  have p4 := c4.1
  rw [show 120 + 14 * g + 0 = 120 + 14 * g by omega] at d0 p0
  rw [show 120 + 14 * g + 2 = 122 + 14 * g by omega] at d2 p2
  rw [show 120 + 14 * g + 3 = 123 + 14 * g by omega] at d3 p3
  rw [show 120 + 14 * g + 4 = 124 + 14 * g by omega] at d4 p4
  have ph := (h3 p hp.1 hp.2).1
  unfold ty_we
  by_cases e0 : v = 0
  · rw [if_pos e0]; omega
  · rw [if_neg e0]
    by_cases e3 : v = 3
    · rw [if_pos e3]; omega
    · rw [if_neg e3]
      by_cases e4 : v = 4
      · rw [if_pos e4]; omega
      · rw [if_neg e4]
        by_cases e5 : v = 5
        · rw [if_pos e5]; omega
        · rw [if_neg e5]
          by_cases e6 : v = 6
          · rw [if_pos e6]; omega
          · rw [if_neg e6]
            by_cases e7 : v = 7
            · rw [if_pos e7]; omega
            · rw [if_neg e7]
              by_cases e8 : v = 8
              · rw [if_pos e8]; omega
              · rw [if_neg e8]; omega
theorem ty_may_w {kind v : Int} (hk : kind = 1 ∨ kind = 4) (h : ty_may kind v) : v = 0 ∨ v = 3 ∨ v = 4 ∨ v = 5 ∨ v = 6 ∨ v = 7 ∨ v = 8 ∨ v = 9 := by
  rcases hk with rfl | rfl
  · have := h.2.1 rfl
    omega
  · have := h.2.2.2.2.1 rfl
    omega
section TYQ
variable {L t : Nat} {r : MR}
theorem ty_wish_n (hr : px_hr r) (d : Nat) (l : MI) (q : Nat) (h6 : q < 6) (x1 x2 x3 : Int) (v4 : PV) (hn4 : px_nl v4) (env : Int → Int) (h1 : ∀ kind : Int, kind = 1 ∨ kind = 4 → ∀ v, 0 ≤ v → v < 15 → ty_may kind v → -1000000 ≤ env v ∧ env v ≤ 1000000) : ∀ (n : Nat) (i : MI) (x5 k : Int) (v8 : PV), px_nl v8 → ty_tx i q → (∀ kind : Int, kind = 1 ∨ kind = 4 → ∀ v, 0 ≤ v → v < 15 → ty_may kind v → i 71 v = env v) → 0 ≤ k → k + n = i (73 + 5 * q) 1 →
    ∃ i1 : MI, px_X (d + 2) 67 (137, [vR 68, vI x1, vI x2, vI x3, v4, vI x5, vR (73 + 5 * q), vI k, v8], []) (px_sh L, i, l, r, t) = some (some (vI (if ty_so i q 4 env n k = true then -2000000 else if ty_find i (73 + 5 * q) 1 n k = -1 then x5 else ty_val i (73 + 5 * q) (ty_find i (73 + 5 * q) 1 n k) env)), (px_sh L, i1, l, r, t)) ∧ ty_ch [72] i i1
  | 0, i, x5, k, v8, hn8, ht, he, h0, hk => by
    have htx : px_tx (73 + 5 * q) := by unfold px_tx; omega
    refine ⟨i, ?_, ty_ch_rf⟩
    rw [b67_137 hr _ _ _ _ _ _ hn4 _ htx _ hn8, if_pos (by omega)]
    rfl
  | n + 1, i, x5, k, v8, hn8, ht, he, h0, hk => by
    have htx : px_tx (73 + 5 * q) := by unfold px_tx; omega
    have hc := ht.1
    have hcc := ht.2.1 k h0 (by omega)
    have w3 : px_w32 (k + 1) = k + 1 := ty_w (by omega)
    have e2 : 73 + 5 * q + 2 = 75 + 5 * q := by omega
    have ef : ∀ kind, ty_find i (73 + 5 * q) kind (n + 1) k = if i (75 + 5 * q) k = kind then k else ty_find i (73 + 5 * q) kind n (k + 1) := fun kind => by
      rw [← e2]
      rfl
    have es : ty_so i q 4 env (n + 1) k = ((decide (i (75 + 5 * q) k = 4) && decide (0 < ty_val i (73 + 5 * q) k env)) || ty_so i q 4 env n (k + 1)) := rfl
    have hgood := ty_good_cl (i := i) (q := q) (k := k) (by omega) hcc
    have step : px_X (d + 2) 67 (137, [vR 68, vI x1, vI x2, vI x3, v4, vI x5, vR (73 + 5 * q), vI k, v8], []) (px_sh L, i, l, r, t) = px_X (d + 2) 67 (164, [vR 68, vI x1, vI x2, vI x3, v4, vI x5, vR (73 + 5 * q), vI k, v8], [vI (i (75 + 5 * q) k)]) (px_sh L, i, l, r, t) := by
      rw [b67_137 hr _ _ _ _ _ _ hn4 _ htx _ hn8, if_neg (by omega), if_neg (by omega), q33i hr _ _ _ (px_tx_s2 htx) (px_tx_g htx 2) _ (by omega), Option.bind_some, px_psh_some, e2]
    have tch : ∀ i1 : MI, ty_ch [72] i i1 → ty_tx i1 q ∧ i1 (73 + 5 * q) 1 = i (73 + 5 * q) 1 ∧ i1 71 = i 71 ∧ (∀ n k, ty_so i1 q 4 env n k = ty_so i q 4 env n k) ∧ (∀ n k, ty_find i1 (73 + 5 * q) 1 n k = ty_find i (73 + 5 * q) 1 n k) ∧ (∀ k, ty_val i1 (73 + 5 * q) k env = ty_val i (73 + 5 * q) k env) := fun i1 c => by
      have hk2 : ∀ k, 73 ≤ k → i1 k = i k := fun k k0 => c k (by simp only [List.mem_singleton]; omega)
      refine ⟨ty_tx_c (fun k k0 k1 => hk2 k (by omega)) (hk2 _ (by omega)) (hk2 _ (by omega)) (hk2 _ (by omega)) (hk2 _ (by omega)) (hk2 _ (by omega)) ht, by rw [hk2 _ (by omega)], c 71 (by decide), fun n k => ty_so_ch (fun k k0 k1 => hk2 k (by omega)) n k, fun n k => ty_find_c (hk2 _ (by omega)) n k, fun k => ?_⟩
      unfold ty_val
      rw [ty_codes_c (hk2 _ (by omega)) (hk2 _ (by omega)) (hk2 _ (by omega))]
    rw [step, es, ef]
    by_cases k4 : i (75 + 5 * q) k = 4
    · have he4 := he 4 (by omega)
      obtain ⟨i1, r1, c1⟩ := q72 (L := L) (t := t) hr htx d i l k hgood (ty_eok_of hcc (by rw [k4]; exact fun v v0 v1 hv => by rw [he4 v v0 v1 hv]; exact h1 4 (by omega) v v0 v1 hv))
      have ev : ty_val i (73 + 5 * q) k (i 71) = ty_val i (73 + 5 * q) k env := ty_val_c hcc (by rw [k4]; exact he4)
      have hvb := (ty_val_b (i := i) (q := q) (k := k) (by omega) hcc (env := env) (ty_eok_of hcc (by rw [k4]; exact fun v v0 v1 hv => h1 4 (by omega) v v0 v1 hv))).2.2 (by omega)
      obtain ⟨t1, t2, t3, t4, t5, t6⟩ := tch i1 c1
      rw [if_neg (show ¬ i (75 + 5 * q) k = 1 by omega)]
      by_cases hv : ty_val i (73 + 5 * q) k env = 0
      · obtain ⟨i2, r2, c2⟩ := ty_wish_n hr d l q h6 x1 x2 x3 v4 hn4 env h1 n i1 x5 (k + 1) (vI 4) (px_nl_I _) t1 (by rw [t3]; exact he) (by omega) (by rw [t2]; omega)
        refine ⟨i2, ?_, ty_ch_tr c1 c2 rfl rfl⟩
        rw [b67_164 hr _ _ _ _ _ _ hn4 _ htx _ hn8, k4, if_pos rfl, r1, ev, hv, Option.bind_some, px_psh_some, b67_180 hr _ _ _ _ _ _ hn4 _ htx, if_pos rfl, b67_186 hr _ _ _ _ _ _ hn4 _ htx, if_neg (by omega), w3, r2, t4, t5, t6]
        rfl
      · refine ⟨i1, ?_, c1⟩
        rw [b67_164 hr _ _ _ _ _ _ hn4 _ htx _ hn8, k4, if_pos rfl, r1, ev, Option.bind_some, px_psh_some, b67_180 hr _ _ _ _ _ _ hn4 _ htx, if_neg hv, if_pos (by rw [decide_eq_true (show 0 < ty_val i (73 + 5 * q) k env by omega)]; rfl)]
    · by_cases k1 : i (75 + 5 * q) k = 1
      · have he1 := he 1 (by omega)
        obtain ⟨i1, r1, c1⟩ := q72 (L := L) (t := t) hr htx d i l k hgood (ty_eok_of hcc (by rw [k1]; exact fun v v0 v1 hv => by rw [he1 v v0 v1 hv]; exact h1 1 (by omega) v v0 v1 hv))
        have ev : ty_val i (73 + 5 * q) k (i 71) = ty_val i (73 + 5 * q) k env := ty_val_c hcc (by rw [k1]; exact he1)
        obtain ⟨t1, t2, t3, t4, t5, t6⟩ := tch i1 c1
        obtain ⟨i2, r2, c2⟩ := ty_wish_n hr d l q h6 x1 x2 x3 v4 hn4 env h1 n i1 (ty_val i (73 + 5 * q) k env) (k + 1) (vI 1) (px_nl_I _) t1 (by rw [t3]; exact he) (by omega) (by rw [t2]; omega)
        refine ⟨i2, ?_, ty_ch_tr c1 c2 rfl rfl⟩
        have hn : ty_find i (73 + 5 * q) 1 n (k + 1) = -1 := by
          rcases ty_find_spec i (73 + 5 * q) 1 n (k + 1) (by omega) with ⟨g1, -⟩ | ⟨g1, g2, g3⟩
          · exact g1
          · rw [e2] at g3
            have := ht.2.2 k _ h0 (by omega) (by omega) (by omega) (k1.trans g3.symm) (by omega)
            omega
        rw [b67_164 hr _ _ _ _ _ _ hn4 _ htx _ hn8, k1, if_neg (by omega), b67_186 hr _ _ _ _ _ _ hn4 _ htx, if_pos rfl, r1, ev, Option.bind_some, px_psh_some, b67_200 hr _ _ _ _ _ _ hn4 _ htx, w3, r2, t4, t5, hn, if_pos rfl, if_pos rfl, if_neg (show ¬ k = -1 by omega)]
        rfl
      · obtain ⟨i2, r2, c2⟩ := ty_wish_n hr d l q h6 x1 x2 x3 v4 hn4 env h1 n i x5 (k + 1) (vI (i (75 + 5 * q) k)) (px_nl_I _) ht he (by omega) (by omega)
        refine ⟨i2, ?_, c2⟩
        rw [b67_164 hr _ _ _ _ _ _ hn4 _ htx _ hn8, if_neg k4, b67_186 hr _ _ _ _ _ _ hn4 _ htx, if_neg k1, w3, r2, if_neg k1, decide_eq_false k4, Bool.false_and, Bool.false_or]
/-- wishOf -/
theorem q67 (hr : px_hr r) (d : Nat) (i l : MI) (m g p w : Int) (hQ : ty_Q i) (hm : 0 ≤ m ∧ m < 1440) (hg : 0 ≤ g ∧ g < i 124 4) (hp : 0 ≤ p ∧ p < i 124 3) (hw : 0 ≤ w ∧ w < 4) (h0 : i 71 0 = m) (h8 : i 71 8 = ty_lev i m) :
    ∃ i1 : MI, px_C (d + 2) 67 [vR 68, vI g, vI p, vI w] (px_sh L, i, l, r, t) = some (some (vI (ty_wish i m g p w)), (px_sh L, i1, l, r, t)) ∧ ty_ch [71, 72] i i1 ∧ i1 71 0 = m ∧ i1 71 8 = ty_lev i m := by
  have hQ' := hQ
  obtain ⟨hV, hq1, hq2, hq3, hq4, hq5⟩ := hQ'
  obtain ⟨hL, -, -, -⟩ := hV
  have hL' := hL
  obtain ⟨h1, h2, h3, h4⟩ := hL'
  have hgs : px_gs (21 + g.toNat) := px_gs_mk21 (by omega)
  have hhigh : ty_at (i 14) 8 p = i 124 (100 + 2 * p) := by
    rw [ty_at_in (by omega)]
    exact (hq3 p hp.1 hp.2).1.1
  have head : px_C (d + 2) 67 [vR 68, vI g, vI p, vI w] (px_sh L, i, l, r, t) = (px_C (d + 1) 64 [vR 68, vI (i 4 8)] (px_sh L, i, l, r, t)).bind (fun q => px_X (d + 1 + 1) 67 (px_psh (31, [vR 68, vI g, vI p, vI w, vR (21 + g.toNat), vI (i 124 (100 + 2 * p)), vJ, vJ, vJ], []) q.1) q.2) := by
    rw [e67, b67_0 hr, q52R hr _ _ _ _ (by omega), Option.bind_some, px_psh_some, b67_8_g hr _ _ _ _ _ _ hgs, q56 hr, hhigh, Option.bind_some, px_psh_some, b67_18_i4g hr _ _ _ _ _ _ hgs]
  by_cases hn : i 4 8 = -1
  · refine ⟨i, ?_, ty_ch_rf, h0, h8⟩
    have e1 : ty_sov i 4 (ty_we i m g p w) = false := if_pos hn
    have e2 : ty_fnd i 1 = -1 := if_pos hn
    unfold ty_wish
    rw [head, e64, b64_0 hr _ _ _ _ (by omega), if_pos (by omega), Option.bind_some, px_psh_some, b67_31_N4g hr _ _ _ _ _ _ hgs, e1, if_neg (by decide), if_pos e2]
  · have ht := h4 (by omega)
    rw [← h1] at ht
    have hc := ht.1
    obtain ⟨q, hq⟩ : ∃ q : Nat, q = (i 4 8).toNat := ⟨_, rfl⟩
    rw [← hq] at ht hc
    have htx : px_tx (73 + 5 * q) := by unfold px_tx; omega
    have G : ∀ c : Int, 0 ≤ c → c < 9 → i (21 + g.toNat) c = i 124 (120 + 14 * g + c) := fun c c0 c1 => (hq4 g hg.1 hg.2 c c0 c1).1
    have G2 := (hq4 g hg.1 hg.2 2 (by omega) (by omega)).2
    have G2' := G2.2.2.2.1 (by omega)
    have G2'' := G2.1
    have g0 := G 0 (by omega) (by omega)
    have g2 := G 2 (by omega) (by omega)
    have g3 := G 3 (by omega) (by omega)
    have g4 := G 4 (by omega) (by omega)
    rw [show 120 + 14 * g + 0 = 120 + 14 * g by omega] at g0
    rw [show 120 + 14 * g + 2 = 122 + 14 * g by omega] at g2 G2' G2''
    rw [show 120 + 14 * g + 3 = 123 + 14 * g by omega] at g3
    rw [show 120 + 14 * g + 4 = 124 + 14 * g by omega] at g4
    obtain ⟨j, hj⟩ : ∃ j : MI, j = px_up (px_up (px_up (px_up (px_up (px_up i 71 3 (i 124 (120 + 14 * g))) 71 4 (i 124 (122 + 14 * g))) 71 5 (i 124 (123 + 14 * g))) 71 6 (i 124 (124 + 14 * g))) 71 7 (i 124 (100 + 2 * p))) 71 9 w := ⟨_, rfl⟩
    have cj : ty_ch [71] i j := by
      intro k hk
      have hk' : k ≠ 71 := fun e => hk (by rw [e]; exact List.mem_singleton.mpr rfl)
      rw [hj, ty_up_row hk', ty_up_row hk', ty_up_row hk', ty_up_row hk', ty_up_row hk', ty_up_row hk']
    have s1 : ∀ k, ¬ k = 71 → ∀ (f : MI) (x v : Int), px_up f 71 x v k = f k := fun k hk f x v => ty_up_row hk
    have n1 : ¬ 21 + g.toNat = 71 := by omega
    have j0 : j 71 0 = m := by rw [hj, ty_up_j (by omega), ty_up_j (by omega), ty_up_j (by omega), ty_up_j (by omega), ty_up_j (by omega), ty_up_j (by omega), h0]
    have j8 : j 71 8 = ty_lev i m := by rw [hj, ty_up_j (by omega), ty_up_j (by omega), ty_up_j (by omega), ty_up_j (by omega), ty_up_j (by omega), ty_up_j (by omega), h8]
    have jv : ∀ kind : Int, kind = 1 ∨ kind = 4 → ∀ v, 0 ≤ v → v < 15 → ty_may kind v → j 71 v = ty_we i m g p w v := fun kind hk v v0 v1 hv => by
      rcases ty_may_w hk hv with rfl | rfl | rfl | rfl | rfl | rfl | rfl | rfl
      · rw [j0]; rfl
      · rw [hj, ty_up_j (by omega), ty_up_j (by omega), ty_up_j (by omega), ty_up_j (by omega), ty_up_j (by omega), ty_up_eq]; rfl
      · rw [hj, ty_up_j (by omega), ty_up_j (by omega), ty_up_j (by omega), ty_up_j (by omega), ty_up_eq]; rfl
      · rw [hj, ty_up_j (by omega), ty_up_j (by omega), ty_up_j (by omega), ty_up_eq]; rfl
      · rw [hj, ty_up_j (by omega), ty_up_j (by omega), ty_up_eq]; rfl
      · rw [hj, ty_up_j (by omega), ty_up_eq]; rfl
      · rw [j8]; rfl
      · rw [hj, ty_up_eq]; rfl
    have hLj : ty_LW j := ty_LW_ch hL cj rfl
    have htj : ty_tx j q := ty_tx_c (fun k k0 k1 => cj k (by simp only [List.mem_singleton]; omega)) (cj _ (by decide)) (cj _ (by decide)) (cj _ (by decide)) (cj _ (by decide)) (cj _ (by decide)) ht
    have hcj : j (73 + 5 * q) = i (73 + 5 * q) := cj _ (by simp only [List.mem_singleton]; omega)
    have hcl : ((i (73 + 5 * q) 1).toNat : Int) = i (73 + 5 * q) 1 := by omega
    obtain ⟨i2, r2, c2⟩ := ty_wish_n (L := L) (t := t) hr d l q (by omega) g p w (vR (21 + g.toNat)) (px_nl_R _) (ty_we i m g p w) (fun _ _ v _ _ _ => ty_we_b hQ hm hg hp hw v) (i (73 + 5 * q) 1).toNat j (i 124 (100 + 2 * p)) 0 vJ px_nl_J htj jv (by omega) (by rw [hcj]; omega)
    have cc : ty_ch [71, 72] i i2 := ty_ch_tr cj c2 rfl rfl
    have hval : (if ty_so j q 4 (ty_we i m g p w) (i (73 + 5 * q) 1).toNat 0 = true then -2000000 else if ty_find j (73 + 5 * q) 1 (i (73 + 5 * q) 1).toNat 0 = -1 then i 124 (100 + 2 * p) else ty_val j (73 + 5 * q) (ty_find j (73 + 5 * q) 1 (i (73 + 5 * q) 1).toNat 0) (ty_we i m g p w)) = ty_wish i m g p w := by
      have e1 : ty_sov i 4 (ty_we i m g p w) = ty_so j q 4 (ty_we i m g p w) (i (73 + 5 * q) 1).toNat 0 := by
        unfold ty_sov
        rw [if_neg hn, ← hq]
        exact (ty_so_ch (fun k k0 k1 => cj k (by simp only [List.mem_singleton]; omega)) _ _).symm
      have e2 : ty_fnd i 1 = ty_find j (73 + 5 * q) 1 (i (73 + 5 * q) 1).toNat 0 := by
        unfold ty_fnd
        rw [if_neg hn, ← hq]
        exact (ty_find_c (cj _ (by simp only [List.mem_singleton]; omega)) _ _).symm
      unfold ty_wish ty_vl
      rw [e1, e2, ← hq]
      unfold ty_val
      rw [ty_codes_c (i := i) (i' := j) (cj _ (by simp only [List.mem_singleton]; omega)) (cj _ (by simp only [List.mem_singleton]; omega)) (cj _ (by simp only [List.mem_singleton]; omega))]
    rw [hval] at r2
    refine ⟨i2, ?_, cc, by rw [c2 71 (by decide)]; exact j0, by rw [c2 71 (by decide)]; exact j8⟩
    have hsw : px_X (d + 2) 67 (59, [vR 68, vI g, vI p, vI w, vR (21 + g.toNat), vI (i 124 (100 + 2 * p)), vR (73 + 5 * q), vJ, vJ], []) (px_sh L, px_up i 71 3 (i 124 (120 + 14 * g)), l, r, t) = px_X (d + 2) 67 (77, [vR 68, vI g, vI p, vI w, vR (21 + g.toNat), vI (i 124 (100 + 2 * p)), vR (73 + 5 * q), vJ, vJ], [vI (i 124 (122 + 14 * g)), vI 4, vR 71]) (px_sh L, px_up i 71 3 (i 124 (120 + 14 * g)), l, r, t) := by
      rw [b67_59 hr _ _ _ _ _ _ hgs _ htx, s1 _ n1, g2]
      by_cases hz : i 124 (122 + 14 * g) = 0
      · rw [if_pos hz, hz]
      · rw [if_neg hz, show i 124 (122 + 14 * g) = 1 by omega]
    rw [head, e64, b64_0 hr _ _ _ _ (by omega), if_neg (by omega), if_neg (by omega), ← hq, Option.bind_some, px_psh_some, b67_31_t4g hr _ _ _ _ _ _ hgs _ htx, g0, q34i hr _ _ _ (px_s71 L) (Nat.le_of_ble_eq_true rfl) _ _ (by omega), Option.bind_some, px_psh_none]
    rw [hsw, b67_77 hr _ _ _ _ _ _ hgs _ htx, q34i hr _ _ _ (px_s71 L) (Nat.le_of_ble_eq_true rfl) _ _ (by omega), Option.bind_some, px_psh_none, b67_80 hr _ _ _ _ _ _ hgs _ htx, s1 _ n1, s1 _ n1, g3, q34i hr _ _ _ (px_s71 L) (Nat.le_of_ble_eq_true rfl) _ _ (by omega), Option.bind_some, px_psh_none, b67_93 hr _ _ _ _ _ _ hgs _ htx, s1 _ n1, s1 _ n1, s1 _ n1, g4, q34i hr _ _ _ (px_s71 L) (Nat.le_of_ble_eq_true rfl) _ _ (by omega), Option.bind_some, px_psh_none, b67_107 hr _ _ _ _ _ _ (px_nl_R _) _ htx, q56 hr, s1 14 (by decide), s1 14 (by decide), s1 14 (by decide), s1 14 (by decide), hhigh, Option.bind_some, px_psh_some, b67_121 hr _ _ _ _ _ _ (px_nl_R _) _ htx, q34i hr _ _ _ (px_s71 L) (Nat.le_of_ble_eq_true rfl) _ _ (by omega), Option.bind_some, px_psh_none, b67_124 hr _ _ _ _ _ _ (px_nl_R _) _ htx, q34i hr _ _ _ (px_s71 L) (Nat.le_of_ble_eq_true rfl) _ _ (by omega), Option.bind_some, px_psh_none, b67_134 hr _ _ _ _ _ _ (px_nl_R _) _ htx, ← hj]
    exact r2
end TYQ
