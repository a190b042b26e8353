/-! The call hatch, at last. -/
theorem ok_hatch (m wh : Int) : ty_ok ty_CR 21 224 [vI m, vI wh] := by
  intro L t r hr n d i l hn hc
  have hc' := ty_CR_mono hc
  have hQ := ty_Q_CR hc
  have hY := hc.2.2.2.2
  have hG := hQ.2
  have b4 := hG.1.2
  have e46 := hG.1.1
  show ∃ (v : Int) (i1 l1 i2 l2 : MI), px_C (d + 33 + 6 + 1) 21 [vR 3, vI m, vI wh] _ = _ ∧ px_C (d + 38 + 1 + 1) 224 [vR 123, vI m, vI wh] _ = _ ∧ _
  by_cases h1 : 0 ≤ m ∧ m ≤ 1439
  · by_cases h2 : 0 ≤ wh ∧ wh ≤ 2
    · have hcol : ∀ g : Int, 0 ≤ g → g < i 124 4 → i (21 + g.toNat) 8 = i 124 (128 + 14 * g) ∧ 0 ≤ i 124 (128 + 14 * g) ∧ i 124 (128 + 14 * g) ≤ 1 := fun g g0 g1 => by
        have h := hG.2.2.2.1 g g0 g1 8 (by omega) (by omega)
        rw [show 120 + 14 * g + 8 = 128 + 14 * g by omega] at h
        exact ⟨h.1, h.2.1, h.2.2.2.2.1 (by omega)⟩
      have hst := hY.2.2.2.1
      obtain ⟨S, hS⟩ : ∃ S, S = ty_hset i := ⟨_, rfl⟩
      have hset : 0 ≤ S ∧ S < 1024 := by rw [hS]; exact ty_hset_b b4.2
      have hSbit : ∀ g, 0 ≤ g → (ty_bit S g = true ↔ g < i 124 4 ∧ ¬ i 124 (128 + 14 * g) = 0) := fun g g0 => by
        rw [hS]
        exact ty_hset_bit g0
      -- the class
      obtain ⟨i1, r1, c1, s1, T1⟩ := q121 (L := L) (r := r) (t := t) hr (d + 33) i l m hQ (by omega) (by omega) hY.2.2.2.2
      have f124 : i1 124 = i 124 := c1 124 (by decide)
      have h57 := q57 (L := L) (r := r) (t := t) hr (d + 33 + 5) i1 l T1.1.2.1.1 T1.1.2.1.2 (fun g g0 g1 => by
        rw [f124] at g1 ⊢
        rw [c1 (21 + g.toNat) (by simp only [List.mem_cons, List.not_mem_nil, or_false]; omega)]
        exact (hcol g g0 g1).1)
      rw [ty_hset_ch f124, ← hS] at h57
      obtain ⟨i2, r2, c2, T2, p2⟩ := q122 (L := L) (r := r) (t := t) hr (d + 33 + 1) i1 l m S T1 hset
      have c12 : ty_ch [70, 71, 72, 103, 104, 105, 107, 108] i i2 := ty_ch_tr c1 c2 rfl rfl
      have g124 : i2 124 = i 124 := c12 124 (by decide)
      have hPL : ∀ g, 0 ≤ g → g < 10 → i2 105 g = tn_P i S m g ∧ -1 ≤ tn_P i S m g ∧ tn_P i S m g < i2 124 3 := fun g g0 g1 => by
        rw [p2 g g0 g1, tn_place hQ (tn_fp_ch c1 rfl), g124]
        exact ⟨rfl, tn_P_b hQ S m g⟩
      have hS2 : S = ty_hset i2 := by rw [ty_hset_ch g124]; exact hS
      obtain ⟨i3, E, q, c, r3, c3, Q3, hq, hcb, hE⟩ := th_113 (L := L) (r := r) (t := t) hr (d + 33) i2 l S m (tn_P i S m) T2.1 hS2 (by omega) (fun g g0 g1 => by
        rw [g124] at g1 ⊢
        rw [c12 (21 + g.toNat) (by simp only [List.mem_cons, List.not_mem_nil, or_false]; omega)]
        exact (hcol g g0 g1).1) hPL
      have c13 : ty_ch [70, 71, 72, 103, 104, 105, 107, 108, 116, 118, 119] i i3 := ty_ch_tr c12 c3 rfl rfl
      have h124 : i3 124 = i 124 := c13 124 (by decide)
      have eB : th_B i2 = th_B i := by
        unfold th_B
        rw [g124]
      have eR : th_rk i2 = th_rk i := by
        unfold th_rk
        rw [g124]
      have eH : th_H i2 (tn_P i S m) = th_H i (tn_P i S m) := by
        unfold th_H tn_hi
        rw [g124]
      have eN : th_N i2 = th_N i := by
        unfold th_N
        rw [g124]
      have eL : ty_lev i2 = ty_lev i := funext fun u => tn_lev hQ (tn_fp_ch c12 rfl) u
      rw [eB, eR, g124] at r3
      rw [eH, eN, eL] at hE
      rw [g124] at hq hcb
      obtain ⟨ok, hok⟩ : ∃ ok : Int → Bool, ok = (fun X => th_go q E (th_B i) X c.toNat 0 m) := ⟨_, rfl⟩
      rw [← hok] at r3
      obtain ⟨lp, hlp⟩ : ∃ lp, lp = th_lp ok (fun X => th_wo (th_rk i) X (i 124 4).toNat 0) S S.toNat 1 0 0 := ⟨_, rfl⟩
      rw [← hlp] at r3
      have hwo0 : th_wo (th_rk i) 0 (i 124 4).toNat 0 = 0 := by
        have key : ∀ (n : Nat) (g : Int), th_wo (th_rk i) 0 n g = 0 := fun n => by
          induction n with
          | zero => intro g; rfl
          | succ n ih =>
            intro g
            show (if ty_bit 0 g = true then _ else 0) + th_wo (th_rk i) 0 n (g + 1) = 0
            rw [ih, th_z, if_neg (by decide)]
            rfl
        exact key _ _
      have hlpb := th_lp_b (ok := ok) (w := fun X => th_wo (th_rk i) X (i 124 4).toNat 0) (S := S) S.toNat 1 0 0 (by omega) ⟨Int.le_refl 0, by omega, hwo0.symm⟩ (by omega)
      rw [← hlp] at hlpb
      have hB : 0 ≤ lp.1 ∧ lp.1 < 1024 := by omega
      -- the reference
      obtain ⟨i4, l4, r4, c4, cl4, v4, p4⟩ := q207 (L := L) (r := r) (t := t) hr (d + 34) i3 l Q3.1
      have Q4 : ty_Q i4 := ⟨v4, ty_HG_ch Q3.2 c4 rfl⟩
      have c14 : ty_ch [70, 71, 72, 103, 104, 105, 107, 108, 116, 118, 119, 140, 146] i i4 := ty_ch_tr c13 c4 rfl rfl
      have k124 : i4 124 = i 124 := c14 124 (by decide)
      have h198 : ∀ (dd : Nat) (j k : MI), j 124 = i 124 → px_C (dd + 1) 198 [vR 123] (px_sh L, j, k, r, t) = some (some (vI S), (px_sh L, j, k, r, t)) := fun dd j k hj => by
        have h := q198 (L := L) (r := r) (t := t) hr dd j k (by rw [hj]; exact b4) (fun g g0 g1 => by
          rw [hj] at g1 ⊢
          exact (hcol g g0 g1).2)
        rw [ty_hset_ch hj, ← hS] at h
        exact h
      obtain ⟨i5, l5, r5, c5, cl5, p5⟩ := q197 (L := L) (r := r) (t := t) hr (d + 33) i4 l4 m S Q4 (by omega) hset
      have c15 : ty_ch [70, 71, 72, 103, 104, 105, 107, 108, 116, 118, 119, 140, 142, 143, 144, 146] i i5 := ty_ch_tr c14 c5 rfl rfl
      have Q5 : ty_Q i5 := ty_Q_ch Q4 c5 rfl
      have m124 : i5 124 = i 124 := c15 124 (by decide)
      have hb3 := hQ.2.2.1.2
      obtain ⟨i6, r6, c6, p6, -⟩ := th_222_n (L := L) (r := r) (t := t) hr (d + 38) l5 m S (i 124 4) (tn_P i S m) (tn_hi i) (th_N i) (ty_lev i) (by omega) b4 (fun g g0 g1 _ => by
        have h := tn_P_b hQ S m g
        exact ⟨⟨h.1, by omega⟩, tn_hi_b hQ h⟩) (fun g g0 g1 => (th_N_b hQ.2 g0 g1).2) (i 124 4).toNat i5 0 vJ px_nl_J (by rw [m124]) (fun x x0 x1 => by
        rw [p5 x x0 x1, k124, tn_place hQ (tn_fp_ch c14 rfl)]
        rfl) (fun p p0 p1 => by
        unfold tn_hi
        rw [m124]) (fun g g0 g1 => by rw [m124]; rfl) (fun u u0 u1 => by
        rw [c5 146 (by decide), p4 u u0 u1]
        exact tn_lev hQ (tn_fp_ch c13 rfl) u) (by omega) (by omega)
      have c16 : ty_ch [70, 71, 72, 103, 104, 105, 107, 108, 116, 118, 119, 140, 142, 143, 144, 146, 155] i i6 := ty_ch_tr c15 c6 rfl rfl
      have Q6 : ty_Q i6 := ty_Q_ch Q5 c6 rfl
      have n124 : i6 124 = i 124 := c16 124 (by decide)
      have hEE : ∀ g, 0 ≤ g → g < i 124 4 → i6 155 g = E g ∧ E g ≤ 1440 := fun g g0 g1 => by
        rw [p6 g g0 g1, hE g g0 (by omega)]
        refine ⟨rfl, ?_⟩
        by_cases cb : ty_bit S g = true
        · rw [if_pos cb]
          have := (th_fs_b (P := th_P (th_H i (tn_P i S m)) (th_N i) (ty_lev i) g) (1440 - m).toNat m).2
          unfold th_E
          omega
        · rw [if_neg cb]
          omega
      have rk6 : ∀ g, 0 ≤ g → g < i 124 4 → i6 124 (120 + 14 * g) = th_rk i g ∧ 0 ≤ th_rk i g ∧ th_rk i g ≤ 9 := fun g g0 g1 => by
        rw [n124]
        exact ⟨rfl, (th_rk_b hQ.2 ⟨g0, g1⟩).2⟩
      obtain ⟨v8, k8, r7⟩ := th_224_l (L := L) (r := r) (t := t) hr (d + 38) i6 l5 m wh S (i 124 4) (th_rk i) ok hset ⟨by rw [n124], b4⟩ rk6 (fun X x0 x1 hsub => by
        rw [e223, b223_0 hr, hok]
        exact th_223_m hr (d + 38) i6 l5 X m S (i 124 4) c E (i6 155) q (th_B i) ⟨by rw [n124], b4⟩ rfl hEE hq (fun g g0 g1 => by
          rw [n124]
          exact ⟨rfl, (th_B_b hQ.2 g0 g1).2⟩) c.toNat 0 m X vJ vJ px_nl_J px_nl_J ⟨x0, x1⟩ (by omega) (by omega) (by omega) (by omega) (fun g g0 g1 => ⟨fun h => ⟨h, by
          have hs := th_sub ⟨x0, x1⟩ hset hsub g g0 (by omega) h
          have hg := ((hSbit g g0).mp hs).1
          exact hq.2.2 g g0 hg hs⟩, fun h => h.1⟩)) S.toNat 1 0 0 vJ vJ px_nl_J px_nl_J (by omega) (by omega)
      rw [← hlp] at r7
      have hS2G : S < 2 ^ (i 124 4).toNat := by
        rw [hS]
        unfold ty_hset
        exact_mod_cast ty_hs_lt (i 124) (i 124 4).toNat
      have hlo : ∀ X, 0 ≤ X → X < S + 1 → ∀ j, i 124 4 ≤ j → ty_bit X j = false := fun X x0 x1 => th_hi b4 x0 (by omega)
      have ctS := th_ct_G (X := S) b4 (fun j j0 j1 => hlo S hset.1 (by omega) j j0)
      have ctB := th_ct_G (X := lp.1) b4 (fun j j0 j1 => hlo lp.1 hB.1 hlpb.1.2 j j0)
      have bS := th_ct_b (X := S) (i 124 4).toNat 0
      have bB := th_ct_b (X := lp.1) (i 124 4).toNat 0
      have r8 := th_224_c (L := L) (r := r) (t := t) hr (d + 38 + 1) i6 l5 m wh S lp.1 lp.2 (i 124 4) hB ⟨by rw [n124], b4⟩ k8 (i 124 4).toNat 0 0 (by omega) (by omega) (by omega) (by omega)
      rw [Int.zero_add] at r8
      have r9 := th_219_n (L := L) (r := r) (t := t) hr (d + 38) i6 l5 S (i 124 4) ⟨by rw [n124], b4⟩ (fun g g0 g1 => by
        rw [n124]
        have hh := hcol g g0 g1
        by_cases cb : ty_bit S g = true
        · rw [if_pos cb]
          have := ((hSbit g g0).mp cb).2
          omega
        · rw [if_neg cb]
          by_cases c0 : i 124 (128 + 14 * g) = 0
          · exact c0
          · exact absurd ((hSbit g g0).mpr ⟨g1, c0⟩) cb) (i 124 4).toNat 0 0 (by omega) (by omega) (by omega) (by omega)
      rw [Int.zero_add] at r9
      have h222 : px_C (d + 38 + 1) 222 [vR 123, vI m] (px_sh L, i4, l4, r, t) = some (none, (px_sh L, i6, l5, r, t)) := by
        rw [e222, b222_0 hr, h198 _ i4 l4 k124, Option.bind_some, px_psh_some, b222_5 hr, r5, Option.bind_some, px_psh_none, b222_9 hr, r6]
      have hcl : px_C (d + 33 + 6 + 1) 21 [vR 3, vI m, vI wh] (px_sh L, i, l, r, t) = px_X (d + 33 + 6 + 1) 21 (48, [vR 3, vI m, vI wh, vJ], [vI lp.1]) (px_sh L, i3, l, r, t) := by
        rw [e21, b21_0 hr, q31 hr, Option.bind_some, px_psh_some, b21_4 hr, px_bi_T h1, if_neg (by omega), q30 hr, Option.bind_some, px_psh_some, b21_13 hr, px_bi_T h2, if_neg (by omega), r1, Option.bind_some, px_psh_none, b21_26 hr, h57, Option.bind_some, px_psh_some, b21_37 hr, r2, Option.bind_some, px_psh_none, b21_40 hr, r3, Option.bind_some, px_psh_some]
      have href : px_C (d + 38 + 1 + 1) 224 [vR 123, vI m, vI wh] (px_sh L, i3, l, r, t) = px_X (d + 38 + 1 + 1) 224 (145, [vR 123, vI m, vI wh, vI S, vI lp.1, vI lp.2, vI (th_ct lp.1 (i 124 4).toNat 0), vI (i 124 4), v8], []) (px_sh L, i6, l5, r, t) := by
        rw [e224, b224_0 hr, q145 hr, Option.bind_some, px_psh_some, b224_4 hr, px_bi_T h1, if_neg (by omega), q141 hr, Option.bind_some, px_psh_some, b224_13 hr, px_bi_T h2, if_neg (by omega), r4, Option.bind_some, px_psh_none, b224_22 hr, h222, Option.bind_some, px_psh_none, b224_27 hr, h198 _ i6 l5 n124, Option.bind_some, px_psh_some, b224_31 hr, r7, r8]
      have h145 := b224_145 (L := L) (t := t) hr (d + 38 + 1) i6 l5 m wh S lp.1 lp.2 (th_ct lp.1 (i 124 4).toNat 0) (i 124 4) k8
      rw [if_pos (by rw [n124]; omega)] at h145
      have hCR : ty_CR (n + 1) i6 l5 := by
        refine ty_CR_same hc (ty_same_ch c16 rfl) ?_ ?_ Q6.1.2.1 ?_ (fun x x0 x1 => ?_)
        · rw [cl5 19 (by decide), cl4 19 (by decide)]
        · rw [cl5 46 (by decide), cl4 46 (by decide)]
        · rw [c6 103 (by decide), c5 103 (by decide), c4 103 (by decide), c3 103 (by decide), c2 103 (by decide), s1]
          omega
        · rw [c6 103 (by decide), c5 103 (by decide), c4 103 (by decide), c3 103 (by decide), c6 108 (by decide), c5 108 (by decide), c4 108 (by decide), c3 108 (by decide)]
          exact T2.2.2.2.2.1 x x0 x1
      have h112 := th_112 (L := L) (r := r) (t := t) hr (d + 33 + 5) i3 l lp.1 hB Q3.2
      have eR3 : th_rk i3 = th_rk i := by
        unfold th_rk
        rw [h124]
      rw [h124, eR3] at h112
      have h57b := q57 (L := L) (r := r) (t := t) hr (d + 33 + 5) i3 l Q3.2.1.1 Q3.2.1.2 (fun g g0 g1 => by
        rw [h124] at g1 ⊢
        rw [c13 (21 + g.toNat) (by simp only [List.mem_cons, List.not_mem_nil, or_false]; omega)]
        exact (hcol g g0 g1).1)
      rw [ty_hset_ch h124, ← hS] at h57b
      by_cases w0 : wh = 0
      · refine ⟨lp.1, i3, l, i6, l5, ?_, ?_, hCR, c13 0 (by decide), c16 0 (by decide)⟩
        · rw [hcl, b21_48 hr, if_pos w0]
        · rw [href, h145, if_pos w0]
      · by_cases w1 : wh = 1
        · refine ⟨lp.2, i3, l, i6, l5, ?_, ?_, hCR, c13 0 (by decide), c16 0 (by decide)⟩
          · rw [hcl, b21_48 hr, if_neg w0, if_pos w1, h112, Option.bind_some, px_psh_some, b21_86 hr, hlpb.2]
          · rw [href, h145, if_neg w0, if_pos w1]
        · refine ⟨th_ct S (i 124 4).toNat 0 - th_ct lp.1 (i 124 4).toNat 0, i3, l, i6, l5, ?_, ?_, hCR, c13 0 (by decide), c16 0 (by decide)⟩
          · rw [hcl, b21_48 hr, if_neg w0, if_neg w1, h57b, Option.bind_some, px_psh_some, b21_94 hr, th_237 hr _ _ _ _ hset, Option.bind_some, px_psh_some, b21_97 hr, th_237 hr _ _ _ _ hB, Option.bind_some, px_psh_some, b21_101 hr, ctS, ctB, ty_w (by omega)]
          · rw [href, h145, if_neg w0, if_neg w1, e219, b219_0 hr, r9, Option.bind_some, px_psh_some, b224_197 hr _ _ _ _ _ _ _ _ _ _ k8, ty_w (by omega)]
    · refine ⟨-1, i, l, i, l, ?_, ?_, hc', rfl, rfl⟩
      · rw [e21, b21_0 hr, q31 hr, Option.bind_some, px_psh_some, b21_4 hr, px_bi_T h1, if_neg (by omega), q30 hr, Option.bind_some, px_psh_some, b21_13 hr, px_bi_F h2, if_pos rfl]
      · rw [e224, b224_0 hr, q145 hr, Option.bind_some, px_psh_some, b224_4 hr, px_bi_T h1, if_neg (by omega), q141 hr, Option.bind_some, px_psh_some, b224_13 hr, px_bi_F h2, if_pos rfl]
  · refine ⟨-1, i, l, i, l, ?_, ?_, hc', rfl, rfl⟩
    · rw [e21, b21_0 hr, q31 hr, Option.bind_some, px_psh_some, b21_4 hr, px_bi_F h1, if_pos rfl]
    · rw [e224, b224_0 hr, q145 hr, Option.bind_some, px_psh_some, b224_4 hr, px_bi_F h1, if_pos rfl]
