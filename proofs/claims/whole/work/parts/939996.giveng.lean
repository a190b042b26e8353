/-! The call given. -/
theorem tg_main {i : MI} (hQ : ty_HG i) {who : Int → Int} {lv S : Int} {n : Nat} (hlv : 0 ≤ lv) (hn5 : n ≤ 5) (hS : 0 ≤ S ∧ S < 1024) (hset : tg_set S who n 0) (hw : ∀ x, 0 ≤ x → x < (n : Int) → 0 ≤ who x ∧ who x < i 124 4) (hi : ∀ x y, 0 ≤ x → x < y → y < (n : Int) → who x < who y) :
    ∃ qs : Nat, qs < 9 ^ n ∧ tg_wr i lv who (tg_dg n qs) n 0 (tg_rm i) 0 = tg_L i S (tg_D i lv) ∧ (∀ q, q < qs → tg_wr i lv who (tg_dg n q) n 0 (tg_rm i) 0 = -1 ∨ tg_L i S (tg_D i lv) < tg_wr i lv who (tg_dg n q) n 0 (tg_rm i) 0) ∧
      (∀ q, tg_wr i lv who (tg_dg n q) n 0 (tg_rm i) 0 = -1 ∨ tg_L i S (tg_D i lv) ≤ tg_wr i lv who (tg_dg n q) n 0 (tg_rm i) 0) ∧
      ∀ a, 0 ≤ a → a < (n : Int) → tg_dl i lv (who a) (i 124 4).toNat 0 S (tg_rm i) (tg_D i lv) (tg_L i S (tg_D i lv)) = tg_dg n qs a := by
  have b4 := hQ.1
  have hne : ∀ x y, 0 ≤ x → x < y → y < 0 + (n : Int) → who x ≠ who y := fun x y x0 xy y1 => by
    have := hi x y x0 xy (by omega)
    omega
  have hrm : ∀ x, 0 ≤ x → x < 8 → 0 ≤ tg_rm i x := fun x x0 x1 => (tg_rm_b hQ ⟨x0, x1⟩).1
  have hz : ∀ x, i 124 3 ≤ x → x < 8 → tg_rm i x ≤ 0 := fun x x0 x1 => by
    have e : tg_rm i x = 0 := if_neg (by omega)
    omega
  have hsd := tg_sd_b (room := tg_rm i) (dry := tg_dr i lv) 8 0 (fun x x0 x1 => tg_rm_b hQ ⟨x0, by omega⟩)
  have hrel : tg_rel i lv n (tg_rm i) (tg_D i lv) := by
    refine ⟨fun h => ?_, fun h => ?_⟩
    · unfold tg_D
      rw [if_pos h]
      omega
    · unfold tg_D
      rw [if_neg (by omega), Int.zero_add]
  have hw0 : ∀ x, 0 ≤ x → x < 0 + (n : Int) → 0 ≤ who x ∧ who x < i 124 4 := fun x x0 x1 => hw x x0 (by omega)
  obtain ⟨qs, q0, q1⟩ := tg_dg_x n (tg_gs i lv who n 0 S (tg_rm i) (tg_D i lv)) (fun x _ _ => tg_gs_b hQ n 0 S _ _ x)
  have hgs := tg_gs_wr hQ hlv n 0 0 S (tg_D i lv) (tg_rm i) hS hset hw0 hne hz hrm hrel
  refine ⟨qs, q0, ?_, fun q hq => ?_, fun q => ?_, fun a a0 a1 => ?_⟩
  · rw [tg_wr_p n 0 0 (tg_rm i) (fun x x0 x1 => q1 x x0 (by omega)), hgs, Int.zero_add]
  · obtain ⟨a, a0, a1, a2⟩ := tg_dg_lt n q qs hq q0
    have h := tg_lex hQ (pl := tg_dg n q) hlv n 0 0 S (tg_D i lv) (tg_rm i) hS hset (fun x x0 x1 => ⟨hw0 x x0 x1, tg_dg_b n q x⟩) hne hz hrm hrel ⟨a, ⟨a0.1, by omega⟩, fun x x0 x1 => by rw [a1 x x0 x1]; exact q1 x x0 (by omega), by rw [← q1 a a0.1 a0.2]; exact a2⟩
    rw [Int.zero_add] at h
    exact h
  · have h := tg_lb hQ (lv := lv) (pl := tg_dg n q) n 0 0 S (tg_D i lv) (tg_rm i) hS hset (fun x x0 x1 => ⟨hw0 x x0 x1, tg_dg_b n q x⟩) hne hrm hrel
    rw [Int.zero_add] at h
    exact h
  · rw [q1 a a0 a1]
    exact tg_dl_gs hQ hlv (i 124 4).toNat n 0 0 S (tg_D i lv) (tg_rm i) (by omega) (by omega) hS hset hw0 (fun x y x0 xy y1 => hi x y x0 xy (by omega)) hz hrm hrel a0 (by omega)
theorem ok_given (m gu : Int) : ty_ok ty_CR 20 221 [vI m, vI gu] := by
  intro L t r hr n d i l hn hc
  have hc' := ty_CR_mono hc
  have hQ := ty_Q_CR hc
  have hY := hc.2.2.2.2
  have hG := hQ.2
  have b4 := hG.1.2
  have e46 := hG.1.1
  show ∃ (v : Int) (i1 l1 i2 l2 : MI), px_C (d + 34 + 4 + 1 + 1) 20 [vR 3, vI m, vI gu] _ = _ ∧ px_C (d + 38 + 1 + 1) 221 [vR 123, vI m, vI gu] _ = _ ∧ _
  have hcol : ∀ g : Int, 0 ≤ g → g < i 124 4 → i (21 + g.toNat) 8 = i 124 (128 + 14 * g) ∧ 0 ≤ i 124 (128 + 14 * g) ∧ i 124 (128 + 14 * g) ≤ 1 := fun g g0 g1 => by
    have h := hG.2.2.2.1 g g0 g1 8 (by omega) (by omega)
    rw [show 120 + 14 * g + 8 = 128 + 14 * g by omega] at h
    exact ⟨h.1, h.2.1, h.2.2.2.2.1 (by omega)⟩
  obtain ⟨S, hS⟩ : ∃ S, S = ty_hset i := ⟨_, rfl⟩
  have hset : 0 ≤ S ∧ S < 1024 := by rw [hS]; exact ty_hset_b b4.2
  have hSbit : ∀ g, 0 ≤ g → (ty_bit S g = true ↔ g < i 124 4 ∧ ¬ i 124 (128 + 14 * g) = 0) := fun g g0 => by
    rw [hS]
    exact ty_hset_bit g0
  have hb01 : ∀ g, 0 ≤ g → g < i 124 4 → i 124 (128 + 14 * g) = if ty_bit S g = true then 1 else 0 := fun g g0 g1 => by
    have hh := hcol g g0 g1
    by_cases cb : ty_bit S g = true
    · rw [if_pos cb]
      have := ((hSbit g g0).mp cb).2
      omega
    · rw [if_neg cb]
      by_cases c0 : i 124 (128 + 14 * g) = 0
      · exact c0
      · exact absurd ((hSbit g g0).mpr ⟨g1, c0⟩) cb
  have hlo : ∀ j, i 124 4 ≤ j → ty_bit S j = false := fun j j0 => by
    cases hb : ty_bit S j with
    | false => rfl
    | true =>
      have := ((hSbit j (by omega)).mp hb).1
      omega
  have ctS := th_ct_G (X := S) b4 (fun j j0 j1 => hlo j j0)
  have bS := th_ct_b (X := S) (i 124 4).toNat 0
  obtain ⟨c, hcn⟩ : ∃ c : Nat, th_ct S (i 124 4).toNat 0 = (c : Int) := ⟨(th_ct S (i 124 4).toNat 0).toNat, by omega⟩
  rw [hcn] at ctS bS
  have h57 := q57 (L := L) (r := r) (t := t) hr (d + 34 + 4) i l e46 b4 (fun g g0 g1 => (hcol g g0 g1).1)
  rw [← hS] at h57
  have hcl : 0 ≤ m ∧ m ≤ 1439 → px_C (d + 34 + 4 + 1 + 1) 20 [vR 3, vI m, vI gu] (px_sh L, i, l, r, t) = px_X (d + 34 + 4 + 1 + 1) 20 (17, [vR 3, vI m, vI gu, vJ], [vI (c : Int)]) (px_sh L, i, l, r, t) := fun hm => by
    rw [e20, b20_0 hr, q31 hr, Option.bind_some, px_psh_some, b20_4 hr, px_bi_T hm, if_neg (by omega), h57, Option.bind_some, px_psh_some, b20_14 hr, th_237 hr _ _ _ _ hset, Option.bind_some, px_psh_some, ctS]
  have href : ∀ j k : MI, j 124 = i 124 → px_C (d + 38 + 1 + 1) 221 [vR 123, vI m, vI gu] (px_sh L, j, k, r, t) = px_X (d + 38 + 1 + 1) 221 (9, [vR 123, vI m, vI gu, vI (c : Int), vJ, vJ, vJ, vJ, vJ, vJ, vJ, vJ], [vI (px_bi (0 ≤ m ∧ m ≤ 1439))]) (px_sh L, j, k, r, t) := fun j k hj => by
    have r9 := th_219_n (L := L) (r := r) (t := t) hr (d + 38) j k S (i 124 4) ⟨by rw [hj], b4⟩ (fun g g0 g1 => by rw [hj]; exact hb01 g g0 g1) (i 124 4).toNat 0 0 (by omega) (by omega) (by omega) (by omega)
    rw [Int.zero_add, hcn] at r9
    rw [e221, b221_0 hr, e219, b219_0 hr, r9, Option.bind_some, px_psh_some, b221_4 hr, q145 hr, Option.bind_some, px_psh_some]
  by_cases hm : 0 ≤ m ∧ m ≤ 1439
  · by_cases h5 : c ≤ 5
    · -- the two go on
      have main : (gu = -1 ∨ (0 ≤ gu ∧ ty_bit S gu = true)) → px_C (d + 34 + 4 + 1 + 1) 20 [vR 3, vI m, vI gu] (px_sh L, i, l, r, t) = (px_C (d + 34 + 4 + 1) 108 [vR 116, vI m, vI gu] (px_sh L, i, l, r, t)).bind (fun q => px_X (d + 34 + 4 + 1 + 1) 20 (px_psh (59, [vR 3, vI m, vI gu, (if gu = -1 then vN else vR (21 + gu.toNat))], []) q.1) q.2) →
          (∀ j k : MI, j 124 = i 124 → px_C (d + 38 + 1 + 1) 221 [vR 123, vI m, vI gu] (px_sh L, j, k, r, t) = px_X (d + 38 + 1 + 1) 221 (51, [vR 123, vI m, vI gu, vI (c : Int), vI 1, vI 0, vI 0, vJ, vJ, vJ, vJ, vJ], []) (px_sh L, j, k, r, t)) →
          ∃ (v : Int) (i1 l1 i2 l2 : MI), px_C (d + 34 + 4 + 1 + 1) 20 [vR 3, vI m, vI gu] (px_sh L, i, l, r, t) = some (some (vI v), (px_sh L, i1, l1, r, t)) ∧ px_C (d + 38 + 1 + 1) 221 [vR 123, vI m, vI gu] (px_sh L, i1, l1, r, t) = some (some (vI v), (px_sh L, i2, l2, r, t)) ∧ ty_CR (n + 1) i2 l2 ∧ i1 0 = i 0 ∧ i2 0 = i 0 := fun hgu hc20 hr51 => by
        obtain ⟨i1, r1, c1, Q1⟩ := tg_108 (L := L) (r := r) (t := t) hr (d + 34) i l m gu S hQ hS (by omega) (fun g g0 g1 => (hcol g g0 g1).1)
        have f124 : i1 124 = i 124 := c1 124 (by decide)
        have hgu3 : px_nl (if gu = -1 then vN else vR (21 + gu.toNat)) := by
          split
          · exact px_nl_N
          · exact px_nl_R _
        obtain ⟨i2, r2, c2, w1, w2, w3⟩ := tg_221_w (L := L) (r := r) (t := t) hr (d + 38) i1 l m gu (c : Int) S c Q1.2 h5 hset (fun g g0 g1 => by
          rw [f124] at g1 ⊢
          exact hb01 g g0 g1) (i 124 4).toNat 0 i1 0 ty_ch_rf (by omega) (by rw [f124]; omega) (by rw [hcn]; omega) (fun j j0 j1 => by omega) (fun x x0 x1 => by omega) (fun x y x0 xy y1 => by omega)
        have c12 : ty_ch [70, 71, 72, 116, 117, 152] i i2 := ty_ch_tr c1 c2 rfl rfl
        have Q2 : ty_Q i2 := ty_Q_ch Q1 c2 rfl
        have g124 : i2 124 = i 124 := c12 124 (by decide)
        obtain ⟨i3, l3, r3, c3, cl3, -, V3⟩ := q192 (L := L) (r := r) (t := t) hr (d + 35) i2 l m Q2.1 (by omega)
        have c13 : ty_ch [70, 71, 72, 116, 117, 140, 152] i i3 := ty_ch_tr c12 c3 rfl rfl
        have k124 : i3 124 = i 124 := c13 124 (by decide)
        have Q3 : ty_Q i3 := ⟨V3, ty_HG_ch Q2.2 c3 rfl⟩
        have elv : ty_lev i2 m = ty_lev i m := tn_lev hQ (tn_fp_ch c12 rfl) m
        rw [elv] at r3
        have hlb := ty_lev_b (i := i) (m := m) (by omega)
        obtain ⟨lv, hlv⟩ : ∃ lv, lv = ty_lev i m := ⟨_, rfl⟩
        rw [← hlv] at r1 r3 hlb
        have e152 : i3 152 = i2 152 := c3 152 (by decide)
        rw [f124] at w1 w2
        obtain ⟨qs, m0, m1, m2, m3, m4⟩ := tg_main (who := i3 152) (S := S) (n := c) hG hlb.1 h5 hset (fun g g0 g1 => by
          rw [e152]
          by_cases cg : g < i 124 4
          · rw [w1 g g0 cg]
            constructor
            · rintro ⟨x, x0, x1, x2⟩
              exact ⟨x, x0, by omega, x2⟩
            · rintro ⟨x, x0, x1, x2⟩
              exact ⟨x, x0, by omega, x2⟩
          · rw [hlo g (by omega)]
            refine ⟨fun h => absurd h (by decide), ?_⟩
            rintro ⟨x, x0, x1, x2⟩
            have := w2 x x0 (by omega)
            omega) (by rw [e152]; exact w2) (by rw [e152]; exact w3)
        have hL := tg_L_b hG S (tg_D i lv)
        obtain ⟨W, hW⟩ : ∃ W, W = tg_L i S (tg_D i lv) := ⟨_, rfl⟩
        rw [← hW] at m1 m2 m3 m4 hL r1
        obtain ⟨i4, v9, v10, v11, n9, n10, n11, r4, c4, p4⟩ := tg_221_q (L := L) (r := r) (t := t) hr (d + 38) i3 l3 m gu (c : Int) lv W c qs Q3.2 h5 hlb (fun k k0 k1 => by
          rw [e152, k124]
          exact w2 k k0 k1) m0 hL.1 (by rw [tg_wr_i k124, tg_rm_i k124]; exact m1) (fun q hq => by rw [tg_wr_i k124, tg_rm_i k124]; exact m2 q hq) (fun q => by rw [tg_wr_i k124, tg_rm_i k124]; exact m3 q) (9 ^ c) 0 i3 (-1) vJ vJ vJ px_nl_J px_nl_J px_nl_J (by omega) ty_ch_rf (fun _ => Or.inl rfl) (fun h => by omega)
        have c14 : ty_ch [70, 71, 72, 116, 117, 140, 143, 152, 153, 154] i i4 := ty_ch_tr c13 c4 rfl rfl
        have Q4 : ty_Q i4 := ty_Q_ch Q3 c4 rfl
        have e4 : i4 152 = i3 152 := c4 152 (by decide)
        have hCR : ty_CR (n + 1) i4 l3 := by
          refine ty_CR_same hc (ty_same_ch c14 rfl) (cl3 19 (by decide)) (cl3 46 (by decide)) Q4.1.2.1 ?_ (fun x x0 x1 => ?_)
          · rw [c14 103 (by decide)]
            have := hY.2.2.2.1
            omega
          · rw [c14 103 (by decide), c14 108 (by decide)]
            exact hY.2.2.2.2 x x0 x1
        have rf : px_C (d + 38 + 1 + 1) 221 [vR 123, vI m, vI gu] (px_sh L, i1, l, r, t) = px_X (d + 38 + 1 + 1) 221 (112, [vR 123, vI m, vI gu, vI (c : Int), vI ((9 ^ c : Nat) : Int), vI (c : Int), vI lv, vI W, vI ((9 ^ c : Nat) : Int), v9, v10, v11], []) (px_sh L, i4, l3, r, t) := by
          have r2' : px_X (d + 38 + 1 + 1) 221 (51, [vR 123, vI m, vI gu, vI (c : Int), vI 1, vI 0, vI 0, vJ, vJ, vJ, vJ, vJ], []) (px_sh L, i1, l, r, t) = _ := r2
          have r4' : px_X (d + 38 + 1 + 1) 221 (112, [vR 123, vI m, vI gu, vI (c : Int), vI ((9 ^ c : Nat) : Int), vI (c : Int), vI lv, vI (-1), vI 0, vJ, vJ, vJ], []) (px_sh L, i3, l3, r, t) = _ := r4
          have r3' : px_C (d + 38 + 1) 192 [vR 123, vI m] (px_sh L, i2, l, r, t) = _ := r3
          rw [hr51 i1 l f124, r2', b221_51 hr, if_pos (by rw [g124, f124]; omega), r3', Option.bind_some, px_psh_some, b221_104 hr, r4']
        rcases hgu with hg1 | ⟨hg0, hgb⟩
        · refine ⟨W, i1, l, i4, l3, ?_, ?_, hCR, c1 0 (by decide), c14 0 (by decide)⟩
          · rw [hc20, r1, Option.bind_some, px_psh_some, b20_59 hr _ _ _ _ _ hgu3, if_pos hg1]
          · rw [rf, b221_112 hr _ _ _ _ _ _ _ _ _ _ _ n9 n10 n11, if_pos (Int.le_refl _), if_pos hg1]
        · have hgG := ((hSbit gu hg0).mp hgb).1
          obtain ⟨a, a0, a1, a2⟩ := (w1 gu hg0 hgG).mp hgb
          rw [← e152, ← e4] at a2
          have m4a := m4 a a0 a1
          have w3' : ∀ x, 0 ≤ x → x < a → i4 152 x ≠ i4 152 a := fun x x0 x1 => by
            rw [e4, e152]
            have := w3 x a x0 x1 a1
            omega
          have rff := tg_221_f (L := L) (r := r) (t := t) hr (d + 38 + 1) i4 l3 m (c : Int) ((9 ^ c : Nat) : Int) (c : Int) lv W a n9 n10 n11 (by omega) w3' a.toNat 0 (by omega) (by omega)
          rw [← e4] at m4a
          rw [a2] at rff m4a
          refine ⟨tg_dg c qs a, i1, l, i4, l3, ?_, ?_, hCR, c1 0 (by decide), c14 0 (by decide)⟩
          · rw [hc20, r1, Option.bind_some, px_psh_some, b20_59 hr _ _ _ _ _ hgu3, if_neg (by omega), m4a]
          · rw [rf, b221_112 hr _ _ _ _ _ _ _ _ _ _ _ n9 n10 n11, if_pos (Int.le_refl _), if_neg (by omega), rff, p4 a a0 a1]
      by_cases g1 : gu = -1
      · refine main (Or.inl g1) ?_ (fun j k hj => ?_)
        · rw [hcl hm, b20_17 hr, if_pos (by omega), q52N hr _ _ _ _ (by omega), Option.bind_some, px_psh_some, b20_31_N hr, if_pos g1, b20_50 hr _ _ _ _ _ px_nl_N, if_pos g1]
        · rw [href j k hj, px_bi_T hm, b221_9 hr, if_neg (by omega), if_neg (by omega), if_pos g1]
      · by_cases g2 : 0 ≤ gu ∧ gu < i 124 4
        · have hgs : px_gs (21 + gu.toNat) := px_gs_mk21 (by omega)
          have hcb := hcol gu g2.1 g2.2
          have hr37 : ∀ j k : MI, j 124 = i 124 → px_C (d + 38 + 1 + 1) 221 [vR 123, vI m, vI gu] (px_sh L, j, k, r, t) = px_X (d + 38 + 1 + 1) 221 (37, [vR 123, vI m, vI gu, vI (c : Int), vJ, vJ, vJ, vJ, vJ, vJ, vJ, vJ], [vI (i 124 (128 + 14 * gu))]) (px_sh L, j, k, r, t) := fun j k hj => by
            rw [href j k hj, px_bi_T hm, b221_9 hr, if_neg (by omega), if_neg (by omega), if_neg g1, q144 hr _ _ _ _ (by rw [hj]; omega), hj, Option.bind_some, px_psh_some, b221_27 hr, px_bi_T g2, if_neg (by omega), q146 hr _ _ _ _ _ (by omega) (by omega), hj, show 120 + 14 * gu + 8 = 128 + 14 * gu by omega, Option.bind_some, px_psh_some]
          by_cases g3 : i 124 (128 + 14 * gu) = 0
          · refine ⟨-1, i, l, i, l, ?_, ?_, hc', rfl, rfl⟩
            · rw [hcl hm, b20_17 hr, if_pos (by omega), q52R hr _ _ _ _ (by omega), Option.bind_some, px_psh_some, b20_31_g hr _ _ _ _ _ hgs, if_neg g1, hcb.1, if_pos g3]
            · rw [hr37 i l rfl, b221_37 hr, if_pos g3]
          · refine main (Or.inr ⟨g2.1, (hSbit gu g2.1).mpr ⟨g2.2, g3⟩⟩) ?_ (fun j k hj => ?_)
            · rw [hcl hm, b20_17 hr, if_pos (by omega), q52R hr _ _ _ _ (by omega), Option.bind_some, px_psh_some, b20_31_g hr _ _ _ _ _ hgs, if_neg g1, hcb.1, if_neg g3, b20_50 hr _ _ _ _ _ (px_nl_R _), if_neg g1]
            · rw [hr37 j k hj, b221_37 hr, if_neg g3]
        · refine ⟨-1, i, l, i, l, ?_, ?_, hc', rfl, rfl⟩
          · rw [hcl hm, b20_17 hr, if_pos (by omega), q52N hr _ _ _ _ (by omega), Option.bind_some, px_psh_some, b20_31_N hr, if_neg g1]
          · rw [href i l rfl, px_bi_T hm, b221_9 hr, if_neg (by omega), if_neg (by omega), if_neg g1, q144 hr _ _ _ _ (by omega), Option.bind_some, px_psh_some, b221_27 hr, px_bi_F g2, if_pos rfl]
    · refine ⟨-1, i, l, i, l, ?_, ?_, hc', rfl, rfl⟩
      · rw [hcl hm, b20_17 hr, if_neg (by omega)]
      · rw [href i l rfl, px_bi_T hm, b221_9 hr, if_neg (by omega), if_pos (by omega)]
  · refine ⟨-1, i, l, i, l, ?_, ?_, hc', rfl, rfl⟩
    · rw [e20, b20_0 hr, q31 hr, Option.bind_some, px_psh_some, b20_4 hr, px_bi_F hm, if_pos rfl]
    · rw [href i l rfl, px_bi_F hm, b221_9 hr, if_pos rfl]
