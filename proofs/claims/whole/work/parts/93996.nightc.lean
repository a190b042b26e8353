/-! The call night. -/
section TNZ
variable {L t : Nat} {r : MR}
theorem tn_203_0 (hr : px_hr r) (d : Nat) (l : MI) (f to e S G : Int) (hG : 0 ≤ G ∧ G ≤ 10) : ∀ (n : Nat) (i : MI) (g : Int) (v6 : PV), px_nl v6 → i 124 4 = G → 0 ≤ g → g + n = G →
    ∃ (i1 : MI) (v6' : PV), px_X (d + 1) 203 (56, [vR 123, vI f, vI to, vI e, vI S, vI g, v6, vJ, vJ], []) (px_sh L, i, l, r, t) = px_X (d + 1) 203 (137, [vR 123, vI f, vI to, vI e, vI S, vI f, v6', vJ, vJ], []) (px_sh L, i1, l, r, t) ∧ px_nl v6' ∧ ty_ch [124] i i1 ∧
      (∀ x, g ≤ x → x < G → i1 124 (129 + 14 * x) = 0 ∧ i1 124 (130 + 14 * x) = 0 ∧ i1 124 (131 + 14 * x) = 0 ∧ i1 124 (132 + 14 * x) = i 124 (128 + 14 * x)) ∧
      ∀ y : Int, (∀ x : Int, g ≤ x → x < 10 → ¬ (129 + 14 * x ≤ y ∧ y ≤ 132 + 14 * x)) → i1 124 y = i 124 y
  | 0, i, g, v6, hn6, h4, hg, hn => by
    refine ⟨i, v6, ?_, hn6, ty_ch_rf, fun x x0 x1 => by omega, fun _ _ => rfl⟩
    rw [b203_56 hr _ _ _ _ _ _ _ _ hn6 (fun h => absurd (by rw [h4]; omega) h) (fun h => absurd (by rw [h4]; omega) h) (fun h => absurd (by rw [h4]; omega) h), if_pos (by rw [h4]; omega)]
  | n + 1, i, g, v6, hn6, h4, hg, hn => by
    have wg : px_w32 (g + 1) = g + 1 := ty_w (by omega)
    have wa : px_w32 (14 * g) = 14 * g := ty_w (by omega)
    have wb : px_w32 (120 + 14 * g) = 120 + 14 * g := ty_w (by omega)
    have w9 : px_w32 (120 + 14 * g + 9) = 129 + 14 * g := by rw [ty_w (by omega)]; omega
    have w10 : px_w32 (120 + 14 * g + 10) = 130 + 14 * g := by rw [ty_w (by omega)]; omega
    have w11 : px_w32 (120 + 14 * g + 11) = 131 + 14 * g := by rw [ty_w (by omega)]; omega
    have w12 : px_w32 (120 + 14 * g + 12) = 132 + 14 * g := by rw [ty_w (by omega)]; omega
    obtain ⟨ia, hia⟩ : ∃ ia : MI, ia = px_up (px_up (px_up i 124 (129 + 14 * g) 0) 124 (130 + 14 * g) 0) 124 (131 + 14 * g) 0 := ⟨_, rfl⟩
    have va : ∀ y : Int, ¬ (129 + 14 * g ≤ y ∧ y ≤ 131 + 14 * g) → ia 124 y = i 124 y := fun y hy => by rw [hia, ty_up_j (by omega), ty_up_j (by omega), ty_up_j (by omega)]
    obtain ⟨ib, hib⟩ : ∃ ib : MI, ib = px_up ia 124 (132 + 14 * g) (i 124 (128 + 14 * g)) := ⟨_, rfl⟩
    have rb : ∀ k, k ≠ 124 → ib k = i k := fun k hk => by rw [hib, ty_up_row hk, hia, ty_up_row hk, ty_up_row hk, ty_up_row hk]
    have vb : ∀ y : Int, ¬ (129 + 14 * g ≤ y ∧ y ≤ 132 + 14 * g) → ib 124 y = i 124 y := fun y hy => by rw [hib, ty_up_j (by omega), va y (by omega)]
    have h56 := b203_56 (L := L) (t := t) hr d i l f to e S g hn6
    rw [wa, wb, w9, w10, w11, w12, ← hia, h4] at h56
    have h56 := h56 (fun _ => by omega) (fun _ => by omega) (fun _ => by omega)
    rw [if_neg (by omega), q146 hr _ _ _ _ _ (by omega) (by omega), show 120 + 14 * g + 8 = 128 + 14 * g by omega, va (128 + 14 * g) (by omega), Option.bind_some, px_psh_some, b203_127 hr _ _ _ _ _ _ _ _ _ _ _ (by omega), wg, ← hib] at h56
    obtain ⟨i1, v6', r1, k6, c1, p1, p2⟩ := tn_203_0 hr d l f to e S G hG n ib (g + 1) (vI (120 + 14 * g)) (px_nl_I _) (by rw [vb 4 (by omega)]; exact h4) (by omega) (by omega)
    refine ⟨i1, v6', by rw [h56, r1], k6, ty_ch_tr (fun k hk => rb k (fun e => hk (by rw [e]; decide))) c1 (S := [124]) rfl rfl, fun x x0 x1 => ?_, fun y hy => ?_⟩
    · by_cases ex : x = g
      · rw [ex, p2 (129 + 14 * g) (fun z z0 z1 => by omega), p2 (130 + 14 * g) (fun z z0 z1 => by omega), p2 (131 + 14 * g) (fun z z0 z1 => by omega), p2 (132 + 14 * g) (fun z z0 z1 => by omega), hib, ty_up_j (by omega), ty_up_j (by omega), ty_up_j (by omega), ty_up_eq, hia, ty_up_j (by omega), ty_up_j (by omega), ty_up_eq, ty_up_j (by omega), ty_up_eq, ty_up_eq]
        exact ⟨rfl, rfl, rfl, rfl⟩
      · have h := p1 x (by omega) x1
        rw [vb (128 + 14 * x) (by omega)] at h
        exact h
    · rw [p2 y (fun x x0 x1 => hy x (by omega) x1), vb y (hy g (Int.le_refl g) (by omega))]
end TNZ
theorem tn_P_fp {i j : MI} (hQ : ty_Q i) (hf : tn_fp i j) (S : Int) : tn_P j S = tn_P i S := funext fun m => by
  unfold tn_P
  rw [tn_place hQ hf]
theorem tn_qn_fp {i j : MI} (hQ : ty_Q i) (hf : tn_fp i j) (S : Int) : tn_qn j S = tn_qn i S := funext fun m => by
  have b4 := hQ.2.1.2
  unfold tn_qn
  rw [hf.2 4 (tn_nt_lo (by omega)), tn_place hQ hf]
  refine tn_cc_c _ _ (fun x y x0 xy y1 => ?_)
  unfold tn_f
  rw [tn_qu_fp hQ hf (by omega) (by omega), tn_qu_fp hQ hf (by omega) (by omega)]
theorem tn_w_fp {i j : MI} (hQ : ty_Q i) (hf : tn_fp i j) (h : j 124 = i 124) : tn_ww j = tn_ww i ∧ tn_wu j = tn_wu i := by
  have e : ∀ p, tn_hi j p = tn_hi i p := fun p => by
    unfold tn_hi
    rw [h]
  constructor
  · funext m p g
    unfold tn_ww
    rw [e, tn_lev hQ hf]
  · funext m p g
    unfold tn_wu
    rw [e, tn_lev hQ hf, h]
theorem ok_night (f to e : Int) : ty_ok ty_CR 14 203 [vI f, vI to, vI e] := by
  intro L t r hr n d i l hn hc
  have hc' := ty_CR_mono hc
  have hQ := ty_Q_CR hc
  have hY := hc.2.2.2.2
  have hG := hQ.2
  have b4 := hG.1.2
  show ∃ (v : Int) (i1 l1 i2 l2 : MI), px_C (d + 32 + 6 + 1 + 1) 14 [vR 3, vI f, vI to, vI e] _ = _ ∧ px_C (d + 33 + 6 + 1) 203 [vR 123, vI f, vI to, vI e] _ = _ ∧ _
  by_cases h1 : 0 ≤ f ∧ f ≤ 1439
  · by_cases h2 : f ≤ to ∧ to ≤ 1439
    · by_cases h3 : 1 ≤ e ∧ e ≤ 60
      · have hcol : ∀ g : Int, 0 ≤ g → g < i 124 4 → i (21 + g.toNat) 8 = i 124 (128 + 14 * g) ∧ 0 ≤ i 124 (128 + 14 * g) ∧ i 124 (128 + 14 * g) ≤ 1 := fun g g0 g1 => by
          have h := hG.2.2.2.1 g g0 g1 8 (by omega) (by omega)
          rw [show 120 + 14 * g + 8 = 128 + 14 * g by omega] at h
          exact ⟨h.1, h.2.1, h.2.2.2.2.1 (by omega)⟩
        have hst := hY.2.2.2.1
        obtain ⟨i1, r1, I1⟩ := tn_126 (L := L) (r := r) (t := t) hr (d + 32) i l f to e hQ h1.1 h2.1 h2.2 h3 (by omega) hY.2.2.2.2 (fun g g0 g1 => (hcol g g0 g1).1)
        obtain ⟨S, hS⟩ : ∃ S, S = ty_hset i := ⟨_, rfl⟩
        obtain ⟨N, hN⟩ : ∃ N : Nat, N = (to + 1 - f).toNat := ⟨_, rfl⟩
        rw [← hS, ← hN] at I1
        have I1' := I1
        obtain ⟨Q1, c1, s1, a1, row1, pl1, k1⟩ := I1'
        have hset : 0 ≤ S ∧ S < 1024 := by rw [hS]; exact ty_hset_b b4.2
        have e124 : i1 124 = i 124 := c1 124 (by decide)
        have fp1 : tn_fp i i1 := tn_fp_ch c1 rfl
        have h198 := q198 (L := L) (r := r) (t := t) hr (d + 33 + 5) i1 l (by rw [e124]; exact b4) (fun g g0 g1 => by
          rw [e124] at g1 ⊢
          exact (hcol g g0 g1).2)
        rw [ty_hset_ch e124, ← hS] at h198
        -- the reference
        obtain ⟨j, hj⟩ : ∃ j : MI, j = px_up (px_up i1 124 9 0) 124 10 0 := ⟨_, rfl⟩
        have rj : ∀ k, k ≠ 124 → j k = i1 k := fun k hk => by rw [hj, ty_up_row hk, ty_up_row hk]
        have vj : ∀ y : Int, y ≠ 9 → y ≠ 10 → j 124 y = i 124 y := fun y y0 y1 => by rw [hj, ty_up_j y1, ty_up_j y0, e124]
        obtain ⟨j1, v6, rr1, n6, cc1, p1, p2⟩ := tn_203_0 (L := L) (r := r) (t := t) hr (d + 33 + 6) l f to e S (i 124 4) b4 (i 124 4).toNat j 0 vJ px_nl_J (vj 4 (by omega) (by omega)) (by omega) (by omega)
        have old : ∀ y : Int, ¬ tn_nt y → j1 124 y = i1 124 y := fun y hny => by
          rw [p2 y (fun x x0 x1 h => hny (Or.inr (Or.inr (Or.inr ⟨x, x0, x1, h.1, h.2⟩)))), vj y (fun h => hny (Or.inl h)) (fun h => hny (Or.inr (Or.inl h))), e124]
        have cj : ty_ch tn_KR i1 j1 := fun k hk => by
          have k124 : k ≠ 124 := fun e => hk (by rw [e]; decide)
          rw [cc1 k (by simp only [List.mem_singleton]; exact k124), rj k k124]
        have Qj : ty_Q j1 := tn_Q Q1 ⟨fun k hk => cj k (fun h => by
          unfold tn_KR at h
          simp only [List.mem_cons, List.not_mem_nil, or_false] at h
          omega), old⟩
        have I0 : tn_RI i1 S f e 0 j1 := by
          refine ⟨Qj, cj, old, ⟨?_, ?_⟩, fun x x0 x1 => ?_, fun h => absurd h (by decide), fun k x k0 k1 k2 => ?_⟩
          · rw [p2 10 (fun x x0 x1 => by omega), hj, ty_up_eq]
            rfl
          · rw [p2 9 (fun x x0 x1 => by omega), hj, ty_up_j (by omega), ty_up_eq]
            rfl
          · have h := p1 x x0 (by rw [e124] at x1; exact x1)
            rw [h.1, h.2.1, h.2.2.1, h.2.2.2, vj _ (by omega) (by omega), e124]
            refine ⟨?_, ?_, ?_, rfl⟩
            · show (0 : Int) = if _ then 0 else 0
              split <;> rfl
            · show (0 : Int) = if _ then 0 else 0
              split <;> rfl
            · show (0 : Int) = if _ then 0 else 0
              split <;> rfl
          · have : tn_T e 0 = 0 := rfl
            omega
        obtain ⟨i2, l2, r2, I2, cl2⟩ := tn_203_l (L := L) (r := r) (t := t) hr (d + 33) i1 S f e to Q1 hset h1.1 h3 h2.2 N 0 j1 l v6 vJ vJ n6 px_nl_J px_nl_J I0 (by omega)
        rw [Nat.zero_add] at r2 I2
        rw [show f + ((0 : Nat) : Int) = f by omega] at r2
        obtain ⟨Q2, c2, y2, a2, row2, pl2, k2⟩ := I2
        have hw := tn_w_fp hQ fp1 e124
        rw [tn_qn_fp hQ fp1] at a2
        rw [tn_P_fp hQ fp1, hw.1, hw.2, e124] at row2
        rw [tn_P_fp hQ fp1, e124] at k2
        rw [e124] at y2
        have hTb := tn_T_b (e := e) N
        have hqb : ∀ m, 0 ≤ tn_qn i S m ∧ tn_qn i S m ≤ 45 := fun m => tn_cc_45 b4
        have hQb := tn_Qn_b (e := e) (f := f) hqb N
        have hNb : (N : Int) ≤ 1440 := by omega
        -- rows
        have r12 : ∀ k : Nat, ¬ k ∈ tn_KS → ¬ k ∈ tn_KR → i2 k = i k := fun k ks kr => by rw [c2 k kr, c1 k ks]
        have lo : ∀ x : Int, x < 9 → i2 124 x = i 124 x := fun x hx => y2 x (tn_nt_lo hx)
        have cls : ∀ k : Nat, 9 ≤ k → k ≤ 13 → i2 k = i1 k := fun k k0 k1 => c2 k (fun h => by
          unfold tn_KR at h
          simp only [List.mem_cons, List.not_mem_nil, or_false] at h
          omega)
        have big : ∀ k : Nat, (k < 9 ∨ (13 < k ∧ k < 70) ∨ (72 < k ∧ k < 103) ∨ (108 < k ∧ k < 124) ∨ (124 < k ∧ k < 140)) → i2 k = i k := fun k hk => r12 k (fun h => by
          unfold tn_KS at h
          simp only [List.mem_cons, List.not_mem_nil, or_false] at h
          omega) (fun h => by
          unfold tn_KR at h
          simp only [List.mem_cons, List.not_mem_nil, or_false] at h
          omega)
        have l19 : l2 19 = l 19 := cl2 19 (by decide)
        have l46 : l2 46 = l 46 := cl2 46 (by decide)
        refine ⟨tn_T e N, i1, l, i2, l2, ?_, ?_, ?_, c1 0 (by decide), big 0 (by omega)⟩
        · rw [e14, b14_0 hr, q31 hr, Option.bind_some, px_psh_some, b14_4 hr, px_bi_T h1, if_neg (by omega), q30 hr, Option.bind_some, px_psh_some, b14_15 hr, px_bi_T h2, if_neg (by omega), q30 hr, Option.bind_some, px_psh_some, b14_25 hr, px_bi_T h3, if_neg (by omega), r1, Option.bind_some, px_psh_none, b14_40 hr, a1.1]
        · rw [e203, b203_0 hr, q145 hr, Option.bind_some, px_psh_some, b203_4 hr, px_bi_T h1, if_neg (by omega), q145 hr, Option.bind_some, px_psh_some, b203_11 hr, px_bi_T (show 0 ≤ to ∧ to ≤ 1439 by omega), if_neg (by omega), if_neg (by omega), q141 hr, Option.bind_some, px_psh_some, b203_26 hr, px_bi_T h3, if_neg (by omega), h198, Option.bind_some, px_psh_some, b203_35 hr, ← hj, rr1, r2]
        · obtain ⟨hD, hh0, h27, hT, -⟩ := hc
          have hdim := ty_D_2 hD
          obtain ⟨hb, hs, hp, hg, ho, hh, hl, hnn⟩ := hh0
          obtain ⟨y1, y2', y3, y4, y5⟩ := hY
          have b5 := hs.2.2.2.2.1
          have b7 := hs.2.2.2.2.2.2.1
          have b8 := hs.2.2.2.2.2.2.2
          have r123 : i2 123 = i 123 := big 123 (by omega)
          have r103 : i2 103 = i1 103 := c2 103 (by decide)
          refine ⟨ty_D_c (i := i) (l := l) (by rw [r123]) (by rw [r123]) (by rw [r123]) (by rw [big 19 (by omega)]) (by rw [big 19 (by omega)]) (by rw [big 19 (by omega)]) (by rw [l19]) (by rw [l19]) (by rw [l19]) (ty_gs_fr (fun k k0 k1 => big k (by omega))) hD, ⟨?_, ?_, ?_, ?_, ?_, ?_, ?_, ?_⟩, ?_, ?_, fun q hq => ?_, ?_, ?_, ?_, ?_⟩
          · exact ty_Hb_c (by rw [big _ (by omega)]) (by rw [l19]) (by rw [r123]) (big _ (by omega)) hdim.2 (fun x hx => by
              rcases hx with hx | hx
              · exact lo x (by omega)
              · exact y2 x (tn_nt_p (by omega))) hb
          · exact ty_Hs_c (big _ (by omega)) (by rw [big _ (by omega)]) (fun x hx => lo x hx.2) hs
          · exact Q2.2.2.2.1
          · exact Q2.2.2.2.2.1
          · exact Q2.2.2.2.2.2
          · exact ty_Hh_c (big _ (by omega)) b7.2.2 (fun x hx => by
              rcases hx with hx | hx
              · exact lo x (by omega)
              · exact y2 x (tn_nt_m (by omega))) hh
          · exact ty_Hl_c (big _ (by omega)) (big _ (by omega)) (big _ (by omega)) b8.2.2 (by rw [lo 4 (by omega)]; exact Int.le_refl _) (by rw [lo 3 (by omega)]; exact Int.le_refl _) (fun x hx => by
              rcases hx with hx | hx
              · exact lo x (by omega)
              · exact y2 x (tn_nt_m (by omega))) hl
          · have e4 : i2 124 4 = i 124 4 := lo 4 (by omega)
            have r9 : i2 9 = i1 9 := cls 9 (by omega) (by omega)
            refine ⟨⟨?_, ?_, ?_⟩, ⟨?_, ?_, ?_⟩, ⟨?_, ?_⟩, fun g g0 g1 => ⟨fun h => ?_, fun h => ?_⟩, fun k g k0 kk1 kk2 g0 g1 hb => ?_⟩
            · show i2 9 0 = i2 124 10
              rw [r9, a1.1, a2.1]
            · rw [a2.1]
              omega
            · rw [a2.1]
              omega
            · show i2 9 1 = i2 124 9
              rw [r9, a1.2.1, a2.2]
            · rw [a2.2]
              omega
            · rw [a2.2]
              omega
            · show 0 ≤ i2 9 2
              rw [r9, a1.2.2]
              exact hset.1
            · show i2 9 2 < 1024
              rw [r9, a1.2.2]
              exact hset.2
            · show ty_bit (i2 9 2) g = false ∧ i2 10 g = 0 ∧ i2 11 g = 0 ∧ i2 12 g = 0
              rw [e4] at h
              have hz := row1 g g0 g1
              rw [if_neg (fun h5 => by omega), if_neg (fun h5 => by omega), if_neg (fun h5 => by omega)] at hz
              rw [r9, a1.2.2, cls 10 (by omega) (by omega), cls 11 (by omega) (by omega), cls 12 (by omega) (by omega), hz.1, hz.2.1, hz.2.2]
              refine ⟨?_, rfl, rfl, rfl⟩
              cases hbt : ty_bit S g with
              | false => rfl
              | true =>
                rw [hS] at hbt
                have := ((ty_hset_bit (i := i) g0).mp hbt).1
                omega
            · rw [e4] at h
              have hz := row1 g g0 g1
              have hy := row2 g g0 h
              have hm := tn_mv_b (e := e) (f := f) (P := tn_P i S) (g := g) N
              have hw1 := tn_wt_b (e := e) (f := f) (P := tn_P i S) (w := tn_ww i) (g := g) N
              have hw2 := tn_wt_b (e := e) (f := f) (P := tn_P i S) (w := tn_wu i) (g := g) N
              have hh8 := hcol g g0 h
              show i2 124 (132 + 14 * g) = (if ty_bit (i2 9 2) g = true then 1 else 0) ∧ (i2 10 g = i2 124 (129 + 14 * g) ∧ 0 ≤ i2 124 (129 + 14 * g) ∧ i2 124 (129 + 14 * g) ≤ 1440) ∧ (i2 11 g = i2 124 (130 + 14 * g) ∧ 0 ≤ i2 124 (130 + 14 * g) ∧ i2 124 (130 + 14 * g) ≤ 1440) ∧ (i2 12 g = i2 124 (131 + 14 * g) ∧ 0 ≤ i2 124 (131 + 14 * g) ∧ i2 124 (131 + 14 * g) ≤ 1440)
              rw [r9, a1.2.2, cls 10 (by omega) (by omega), cls 11 (by omega) (by omega), cls 12 (by omega) (by omega), hz.1, hz.2.1, hz.2.2, hy.1, hy.2.1, hy.2.2.1, hy.2.2.2]
              by_cases cb : ty_bit S g = true
              · have hne : ¬ i 124 (128 + 14 * g) = 0 := by
                  have cb' := cb
                  rw [hS] at cb'
                  exact ((ty_hset_bit (i := i) g0).mp cb').2
                have cg : g < i 124 4 ∧ ty_bit S g = true := ⟨h, cb⟩
                rw [if_pos cb, if_pos cb, if_pos cb, if_pos cb, if_pos cg, if_pos cg, if_pos cg]
                exact ⟨by omega, ⟨rfl, by omega, by omega⟩, ⟨rfl, by omega, by omega⟩, rfl, by omega, by omega⟩
              · have he0 : i 124 (128 + 14 * g) = 0 := by
                  by_cases c0 : i 124 (128 + 14 * g) = 0
                  · exact c0
                  · have := (ty_hset_bit (i := i) g0).mpr ⟨h, c0⟩
                    rw [← hS] at this
                    exact absurd this cb
                have cg : ¬ (g < i 124 4 ∧ ty_bit S g = true) := fun h5 => cb h5.2
                rw [if_neg cb, if_neg cb, if_neg cb, if_neg cb, if_neg cg, if_neg cg, if_neg cg]
                exact ⟨he0, ⟨rfl, by omega, by omega⟩, ⟨rfl, by omega, by omega⟩, rfl, by omega, by omega⟩
            · rw [e4] at g1
              rw [a2.1] at kk1
              have hb' : ty_bit S g = true := by
                have : ty_bit (i2 9 2) g = true := hb
                rw [r9, a1.2.2] at this
                exact this
              show i2 13 (10 * k + g) = i2 124 (320 + 10 * k + g)
              rw [cls 13 (by omega) (by omega), k1 k g k0 kk2 kk1 g0 (by omega) ⟨g1, hb'⟩, k2 k g k0 kk2 kk1 g0 g1 hb']
          · exact ty_H_same 27 125 (i := i) (l := l) (fun k k0 k1 => big k (by omega)) (big 125 (by omega)) (by rw [r123]) l46 (by omega) h27
          · exact ty_T_c (by rw [big 58 (by omega)]) (by rw [big 58 (by omega)]) (by rw [big 58 (by omega)]) (by rw [big 58 (by omega)]) (by rw [r123]) (by rw [r123]) (by rw [r123]) (big 64 (by omega)) (big 126 (by omega)) hT
          · rw [lo 5 (by omega)] at hq
            exact ty_tx_c (fun k k0 k1 => big k (by omega)) (big _ (by omega)) (big _ (by omega)) (big _ (by omega)) (big _ (by omega)) (big _ (by omega)) (y1 q hq)
          · rw [big 125 (by omega), lo 5 (by omega)]
            exact y2'
          · exact Q2.1.2.1
          · rw [r103, s1.1]
            omega
          · rw [r103, c2 108 (by decide)]
            exact s1.2
      · refine ⟨-1, i, l, i, l, ?_, ?_, hc', rfl, rfl⟩
        · rw [e14, b14_0 hr, q31 hr, Option.bind_some, px_psh_some, b14_4 hr, px_bi_T h1, if_neg (by omega), q30 hr, Option.bind_some, px_psh_some, b14_15 hr, px_bi_T h2, if_neg (by omega), q30 hr, Option.bind_some, px_psh_some, b14_25 hr, px_bi_F h3, if_pos rfl]
        · rw [e203, b203_0 hr, q145 hr, Option.bind_some, px_psh_some, b203_4 hr, px_bi_T h1, if_neg (by omega), q145 hr, Option.bind_some, px_psh_some, b203_11 hr, px_bi_T (show 0 ≤ to ∧ to ≤ 1439 by omega), if_neg (by omega), if_neg (by omega), q141 hr, Option.bind_some, px_psh_some, b203_26 hr, px_bi_F h3, if_pos rfl]
    · refine ⟨-1, i, l, i, l, ?_, ?_, hc', rfl, rfl⟩
      · rw [e14, b14_0 hr, q31 hr, Option.bind_some, px_psh_some, b14_4 hr, px_bi_T h1, if_neg (by omega), q30 hr, Option.bind_some, px_psh_some, b14_15 hr, px_bi_F h2, if_pos rfl]
      · rw [e203, b203_0 hr, q145 hr, Option.bind_some, px_psh_some, b203_4 hr, px_bi_T h1, if_neg (by omega), q145 hr, Option.bind_some, px_psh_some, b203_11 hr]
        by_cases h5 : 0 ≤ to ∧ to ≤ 1439
        · rw [px_bi_T h5, if_neg (by omega), if_pos (by omega)]
        · rw [px_bi_F h5, if_pos rfl]
  · refine ⟨-1, i, l, i, l, ?_, ?_, hc', rfl, rfl⟩
    · rw [e14, b14_0 hr, q31 hr, Option.bind_some, px_psh_some, b14_4 hr, px_bi_F h1, if_pos rfl]
    · rw [e203, b203_0 hr, q145 hr, Option.bind_some, px_psh_some, b203_4 hr, px_bi_F h1, if_pos rfl]
