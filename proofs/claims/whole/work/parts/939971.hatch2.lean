/-! The hatch: ends (114, 222). -/
section THB
variable {L t : Nat} {r : MR}
theorem th_114_g (hr : px_hr r) (d : Nat) (l : MI) (S m tt lv G : Int) (R H nose : Int → Int) (hG : 0 ≤ G ∧ G ≤ 10) (hl : 0 ≤ lv ∧ lv ≤ 999) (htt : 0 ≤ tt ∧ tt < 1440) (hH : ∀ g, 0 ≤ g → g < G → 0 ≤ H g ∧ H g ≤ 99) (hN : ∀ g, 0 ≤ g → g < G → 0 ≤ nose g ∧ nose g ≤ 30) : ∀ (n : Nat) (i : MI) (W g : Int) (v7 v8 : PV), px_nl v7 → px_nl v8 → (0 ≤ W ∧ W < 1024) → i 105 = R → i 4 6 = G → (∀ g, 0 ≤ g → g < G → ty_at (i 14) 8 (R g) = H g) → (∀ g, 0 ≤ g → g < G → i (21 + g.toNat) 1 = nose g) → 0 ≤ g → g + n = G →
    ∃ (i1 : MI) (W' : Int) (v7' v8' : PV), px_nl v7' ∧ px_nl v8' ∧ px_X (d + 1 + 1) 114 (41, [vR 116, vI S, vI m, vI W, vI tt, vI lv, vI g, v7, v8], []) (px_sh L, i, l, r, t) = px_X (d + 1 + 1) 114 (15, [vR 116, vI S, vI m, vI W', vI (tt + 1), vI lv, vI G, v7', v8'], []) (px_sh L, i1, l, r, t) ∧ ty_ch [118] i i1 ∧ (0 ≤ W' ∧ W' < 1024) ∧
      (∀ x, 0 ≤ x → x < 10 → (ty_bit W' x = true ↔ ty_bit W x = true ∧ ¬ (g ≤ x ∧ x < G ∧ H x + nose x < lv))) ∧
      ∀ x, 0 ≤ x → x < 10 → i1 118 x = if ty_bit W x = true ∧ g ≤ x ∧ x < G ∧ H x + nose x < lv then tt else i 118 x
  | 0, i, W, g, v7, v8, hn7, hn8, hW, hp, h4, hh, hno, hg, hn => by
    refine ⟨i, W, v7, v8, hn7, hn8, ?_, ty_ch_rf, hW, fun x x0 x1 => ⟨fun h => ⟨h, fun h2 => by omega⟩, fun h => h.1⟩, fun x x0 x1 => by rw [if_neg (fun h => by omega)]⟩
    rw [b114_41 hr _ _ _ _ _ _ _ _ _ hn7 hn8, if_pos (by omega), ty_w (x := tt + 1) (by omega), show g = G by omega]
  | n + 1, i, W, g, v7, v8, hn7, hn8, hW, hp, h4, hh, hno, hg, hn => by
    have wg : px_w32 (g + 1) = g + 1 := ty_w (by omega)
    have hgs : px_gs (21 + g.toNat) := px_gs_mk21 (by omega)
    have hHg := hH g hg (by omega)
    have hNg := hN g hg (by omega)
    have e75 : px_X (d + 1 + 1) 114 (41, [vR 116, vI S, vI m, vI W, vI tt, vI lv, vI g, v7, v8], []) (px_sh L, i, l, r, t) = px_X (d + 1 + 1) 114 (75, [vR 116, vI S, vI m, vI W, vI tt, vI lv, vI g, vR (21 + g.toNat), v8], [vI (px_bi (0 ≤ g ∧ g < 31 ∧ ty_bit W g = true))]) (px_sh L, i, l, r, t) := by
      rw [b114_41 hr _ _ _ _ _ _ _ _ _ hn7 hn8, if_neg (by omega), q52R hr _ _ _ _ (by omega), Option.bind_some, px_psh_some, b114_62_g hr _ _ _ _ _ _ _ _ _ hn7 hn8 hgs, q32 hr _ _ _ _ _ hW.1 (by omega), Option.bind_some, px_psh_some]
    have skip : (¬ (ty_bit W g = true ∧ H g + nose g < lv)) → ∀ (w7 w8 : PV), px_nl w7 → px_nl w8 → px_X (d + 1 + 1) 114 (41, [vR 116, vI S, vI m, vI W, vI tt, vI lv, vI g, v7, v8], []) (px_sh L, i, l, r, t) = px_X (d + 1 + 1) 114 (41, [vR 116, vI S, vI m, vI W, vI tt, vI lv, vI (g + 1), w7, w8], []) (px_sh L, i, l, r, t) →
        ∃ (i1 : MI) (W' : Int) (v7' v8' : PV), px_nl v7' ∧ px_nl v8' ∧ px_X (d + 1 + 1) 114 (41, [vR 116, vI S, vI m, vI W, vI tt, vI lv, vI g, v7, v8], []) (px_sh L, i, l, r, t) = px_X (d + 1 + 1) 114 (15, [vR 116, vI S, vI m, vI W', vI (tt + 1), vI lv, vI G, v7', v8'], []) (px_sh L, i1, l, r, t) ∧ ty_ch [118] i i1 ∧ (0 ≤ W' ∧ W' < 1024) ∧
      (∀ x, 0 ≤ x → x < 10 → (ty_bit W' x = true ↔ ty_bit W x = true ∧ ¬ (g ≤ x ∧ x < G ∧ H x + nose x < lv))) ∧
      ∀ x, 0 ≤ x → x < 10 → i1 118 x = if ty_bit W x = true ∧ g ≤ x ∧ x < G ∧ H x + nose x < lv then tt else i 118 x := fun hno' w7 w8 k7 k8 hx => by
      obtain ⟨i1, W', v7', v8', m7, m8, r1, c1, w1, p1, p2⟩ := th_114_g hr d l S m tt lv G R H nose hG hl htt hH hN n i W (g + 1) w7 w8 k7 k8 hW hp h4 hh hno (by omega) (by omega)
      refine ⟨i1, W', v7', v8', m7, m8, hx.trans r1, c1, w1, fun x x0 x1 => ?_, fun x x0 x1 => ?_⟩
      · rw [p1 x x0 x1]
        constructor
        · rintro ⟨a, b⟩
          refine ⟨a, fun h => ?_⟩
          by_cases ex : x = g
          · rw [ex] at a h
            exact hno' ⟨a, h.2.2⟩
          · exact b ⟨by omega, h.2⟩
        · rintro ⟨a, b⟩
          exact ⟨a, fun h => b ⟨by omega, h.2⟩⟩
      · rw [p2 x x0 x1]
        by_cases c : ty_bit W x = true ∧ g + 1 ≤ x ∧ x < G ∧ H x + nose x < lv
        · rw [if_pos c, if_pos ⟨c.1, by omega, c.2.2⟩]
        · rw [if_neg c, if_neg (fun h => by
            by_cases ex : x = g
            · rw [ex] at h
              exact hno' ⟨h.1, h.2.2.2⟩
            · exact c ⟨h.1, by omega, h.2.2⟩)]
    by_cases hb : ty_bit W g = true
    · have e108 : px_X (d + 1 + 1) 114 (41, [vR 116, vI S, vI m, vI W, vI tt, vI lv, vI g, v7, v8], []) (px_sh L, i, l, r, t) = px_X (d + 1 + 1) 114 (108, [vR 116, vI S, vI m, vI W, vI tt, vI lv, vI g, vR (21 + g.toNat), vI 1], [vI (H g), vI lv]) (px_sh L, i, l, r, t) := by
        rw [e75, b114_75 hr _ _ _ _ _ _ _ _ _ hgs hn8, px_bi_T ⟨by omega, by omega, hb⟩, if_neg (by omega), b114_83_i7g hr _ _ _ _ _ _ _ _ _ hgs hn8, if_neg (by omega), q123 hr _ _ _ _ (by omega), Option.bind_some, px_psh_some, b114_105_iR4i7g hr _ _ _ _ _ _ _ _ _ hgs, hp, q56 hr, hh g hg (by omega), Option.bind_some, px_psh_some]
      by_cases hP : H g + nose g < lv
      · obtain ⟨j, hj⟩ : ∃ j : MI, j = px_up i 118 g tt := ⟨_, rfl⟩
        have cj : ty_ch [118] i j := by
          rw [hj]
          exact ty_ch_up (by decide)
        have hrm := th_rm (X := W) (k := g) hW (by omega)
        obtain ⟨i1, W', v7', v8', m7, m8, r1, c1, w1, p1, p2⟩ := th_114_g hr d l S m tt lv G R H nose hG hl htt hH hN n j (px_and W (px_xor (px_shl 1 g) (-1))) (g + 1) (vR (21 + g.toNat)) (vI 1) (px_nl_R _) (px_nl_I _) hrm.1 (by rw [cj 105 (by decide)]; exact hp) (by rw [cj 4 (by decide)]; exact h4) (fun y y0 y1 => by rw [cj 14 (by decide)]; exact hh y y0 y1) (fun y y0 y1 => by
          rw [cj (21 + y.toNat) (by simp only [List.mem_singleton]; omega)]
          exact hno y y0 y1) (by omega) (by omega)
        have bitx : ∀ x, 0 ≤ x → x < 10 → (ty_bit (px_and W (px_xor (px_shl 1 g) (-1))) x = true ↔ ty_bit W x = true ∧ x ≠ g) := fun x x0 x1 => by
          rw [hrm.2 x x0 (by omega), Bool.and_eq_true, decide_eq_true_iff]
        refine ⟨i1, W', v7', v8', m7, m8, ?_, ty_ch_tr cj c1 rfl rfl, w1, fun x x0 x1 => ?_, fun x x0 x1 => ?_⟩
        · rw [e108, b114_108_ii7g hr _ _ _ _ _ _ _ _ _ hgs, hno g hg (by omega), ty_w (x := H g + nose g) (by omega), if_neg (by omega), q34i hr _ _ _ (px_s118 L) (Nat.le_of_ble_eq_true rfl) _ _ (by omega), Option.bind_some, px_psh_none, b114_128 hr _ _ _ _ _ _ _ _ _ (px_nl_R _), wg, ← hj, r1]
        · rw [p1 x x0 x1, bitx x x0 x1]
          constructor
          · rintro ⟨⟨a, b⟩, c⟩
            exact ⟨a, fun h => c ⟨by omega, h.2⟩⟩
          · rintro ⟨a, b⟩
            refine ⟨⟨a, fun ex => b ?_⟩, fun h => b ⟨by omega, h.2⟩⟩
            rw [ex]
            exact ⟨by omega, by omega, hP⟩
        · rw [p2 x x0 x1]
          by_cases ex : x = g
          · rw [ex, if_neg (fun h => by omega), hj, ty_up_eq, if_pos ⟨hb, by omega, by omega, hP⟩]
          · rw [hj, ty_up_j ex]
            by_cases c : ty_bit W x = true ∧ g ≤ x ∧ x < G ∧ H x + nose x < lv
            · rw [if_pos ⟨(bitx x x0 x1).mpr ⟨c.1, ex⟩, by omega, c.2.2⟩, if_pos c]
            · rw [if_neg (fun h => c ⟨((bitx x x0 x1).mp h.1).1, by omega, h.2.2⟩), if_neg c]
      · refine skip (fun h => hP h.2) (vR (21 + g.toNat)) (vI 1) (px_nl_R _) (px_nl_I _) ?_
        rw [e108, b114_108_ii7g hr _ _ _ _ _ _ _ _ _ hgs, hno g hg (by omega), ty_w (x := H g + nose g) (by omega), if_pos (by omega), wg]
    · refine skip (fun h => hb h.1) (vR (21 + g.toNat)) (vI 0) (px_nl_R _) (px_nl_I _) ?_
      rw [e75, b114_75 hr _ _ _ _ _ _ _ _ _ hgs hn8, px_bi_F (fun h => hb h.2.2), if_pos rfl, b114_82_7g hr _ _ _ _ _ _ _ _ _ hgs hn8, b114_83_i7g hr _ _ _ _ _ _ _ _ _ hgs hn8, if_pos rfl, wg]
def th_P (H nose lev : Int → Int) (x u : Int) : Bool := decide (H x + nose x < lev u)
def th_E (H nose lev : Int → Int) (m x : Int) : Int := th_fs (th_P H nose lev x) (1440 - m).toNat m
theorem th_114_t (hr : px_hr r) (d : Nat) (l : MI) (S m G : Int) (R H nose lev : Int → Int) (hS : 0 ≤ S ∧ S < 1024) (hSG : ∀ x, 0 ≤ x → x < 10 → ty_bit S x = true → x < G) (hG : 0 ≤ G ∧ G ≤ 10) (hm : 0 ≤ m ∧ m < 1440) (hH : ∀ g, 0 ≤ g → g < G → 0 ≤ H g ∧ H g ≤ 99) (hN : ∀ g, 0 ≤ g → g < G → 0 ≤ nose g ∧ nose g ≤ 30) : ∀ (n : Nat) (i : MI) (W tt : Int) (v5 v6 v7 v8 : PV), px_nl v5 → px_nl v6 → px_nl v7 → px_nl v8 → (0 ≤ W ∧ W < 1024) → ty_V i → (∀ u, 0 ≤ u → u < 1440 → ty_lev i u = lev u) → i 105 = R → i 4 6 = G → (∀ g, 0 ≤ g → g < G → ty_at (i 14) 8 (R g) = H g) → (∀ g, 0 ≤ g → g < G → i (21 + g.toNat) 1 = nose g) → m ≤ tt → tt + n = 1440 →
      (∀ x, 0 ≤ x → x < 10 → (ty_bit W x = true ↔ ty_bit S x = true ∧ ∀ u, m ≤ u → u < tt → th_P H nose lev x u = false)) → (∀ x, 0 ≤ x → x < 10 → i 118 x = if ty_bit S x = true ∧ ¬ ty_bit W x = true then th_E H nose lev m x else 1440) →
    ∃ i1 : MI, px_X (d + 4 + 1) 114 (15, [vR 116, vI S, vI m, vI W, vI tt, v5, v6, v7, v8], []) (px_sh L, i, l, r, t) = some (none, (px_sh L, i1, l, r, t)) ∧ ty_ch [70, 71, 72, 118] i i1 ∧ ty_V i1 ∧ ∀ x, 0 ≤ x → x < 10 → i1 118 x = if ty_bit S x = true then th_E H nose lev m x else 1440
  | 0, i, W, tt, v5, v6, v7, v8, hn5, hn6, hn7, hn8, hW, hV, hlev, hp, h4, hh, hno, h0, hn, hbit, hend => by
    refine ⟨i, by rw [b114_15 hr _ _ _ _ _ _ _ hn5 hn6 hn7 hn8, if_pos (by omega)], ty_ch_rf, hV, fun x x0 x1 => ?_⟩
    rw [hend x x0 x1]
    by_cases cs : ty_bit S x = true
    · rw [if_pos cs]
      by_cases cw : ty_bit W x = true
      · rw [if_neg (fun h => h.2 cw)]
        have h := ((hbit x x0 x1).mp cw).2
        unfold th_E
        rw [th_fs_no _ _ (fun v v0 v1 => h v v0 (by omega))]
        omega
      · rw [if_pos ⟨cs, cw⟩]
    · rw [if_neg cs, if_neg (fun h => cs h.1)]
  | n + 1, i, W, tt, v5, v6, v7, v8, hn5, hn6, hn7, hn8, hW, hV, hlev, hp, h4, hh, hno, h0, hn, hbit, hend => by
    by_cases hW0 : W = 0
    · refine ⟨i, by rw [b114_15 hr _ _ _ _ _ _ _ hn5 hn6 hn7 hn8, if_neg (by omega), if_pos hW0], ty_ch_rf, hV, fun x x0 x1 => ?_⟩
      rw [hend x x0 x1]
      by_cases cs : ty_bit S x = true
      · rw [if_pos cs, if_pos ⟨cs, fun h => by rw [hW0, th_z] at h; exact absurd h (by decide)⟩]
      · rw [if_neg cs, if_neg (fun h => cs h.1)]
    · obtain ⟨ia, ra, ca, -, va⟩ := q65 (L := L) (r := r) (t := t) hr d i l tt hV (by omega)
      have hlb := ty_lev_b (i := i) (m := tt) (by omega)
      rw [hlev tt (by omega) (by omega)] at ra hlb
      obtain ⟨ib, W', v7', v8', m7, m8, rb, cb, wb, pb1, pb2⟩ := th_114_g (L := L) (r := r) (t := t) hr (d + 3) l S m tt (lev tt) G R H nose hG hlb (by omega) hH hN G.toNat ia W 0 v7 v8 hn7 hn8 hW (by rw [ca 105 (by decide)]; exact hp) (by rw [ca 4 (by decide)]; exact h4) (fun g g0 g1 => by rw [ca 14 (by decide)]; exact hh g g0 g1) (fun g g0 g1 => by
        rw [ca (21 + g.toNat) (by simp only [List.mem_cons, List.not_mem_nil, or_false]; omega)]
        exact hno g g0 g1) (by omega) (by omega)
      have cab : ty_ch [70, 71, 72, 118] i ib := ty_ch_tr ca cb rfl rfl
      have hV2 : ty_V ib := ty_V_ch va cb rfl
      have pP : ∀ x, th_P H nose lev x tt = true ↔ H x + nose x < lev tt := fun x => decide_eq_true_iff
      obtain ⟨i1, r1, c1, v1, p1⟩ := th_114_t hr d l S m G R H nose lev hS hSG hG hm hH hN n ib W' (tt + 1) (vI (lev tt)) (vI G) v7' v8' (px_nl_I _) (px_nl_I _) m7 m8 wb hV2 (fun u u0 u1 => by rw [ty_lev_ch hV.1 cab rfl]; exact hlev u u0 u1) (by rw [cab 105 (by decide)]; exact hp) (by rw [cab 4 (by decide)]; exact h4) (fun g g0 g1 => by rw [cab 14 (by decide)]; exact hh g g0 g1) (fun g g0 g1 => by
        rw [cab (21 + g.toNat) (by simp only [List.mem_cons, List.not_mem_nil, or_false]; omega)]
        exact hno g g0 g1) (by omega) (by omega) (fun x x0 x1 => by
        rw [pb1 x x0 x1, hbit x x0 x1]
        constructor
        · rintro ⟨⟨a, b⟩, c⟩
          refine ⟨a, fun u u0 u1 => ?_⟩
          by_cases eu : u = tt
          · rw [eu]
            cases hp2 : th_P H nose lev x tt with
            | false => rfl
            | true => exact absurd ⟨x0, hSG x x0 x1 a, (pP x).mp hp2⟩ c
          · exact b u u0 (by omega)
        · rintro ⟨a, b⟩
          refine ⟨⟨a, fun u u0 u1 => b u u0 (by omega)⟩, fun h => ?_⟩
          have := b tt h0 (by omega)
          rw [(pP x).mpr h.2.2] at this
          exact absurd this (by decide)) (fun x x0 x1 => by
        rw [pb2 x x0 x1, ca 118 (by decide), hend x x0 x1]
        by_cases c : ty_bit W x = true ∧ 0 ≤ x ∧ x < G ∧ H x + nose x < lev tt
        · have hs := (hbit x x0 x1).mp c.1
          rw [if_pos c, if_pos ⟨hs.1, fun h => ((pb1 x x0 x1).mp h).2 c.2⟩]
          unfold th_E
          exact (th_fs_at _ _ tt h0 (by omega) (fun v v0 v1 => hs.2 v v0 v1) ((pP x).mpr c.2.2.2)).symm
        · rw [if_neg c]
          by_cases cs : ty_bit S x = true
          · by_cases cw : ty_bit W x = true
            · rw [if_neg (fun h => h.2 cw), if_neg (fun h => h.2 ((pb1 x x0 x1).mpr ⟨cw, fun h2 => c ⟨cw, h2⟩⟩))]
            · rw [if_pos ⟨cs, cw⟩, if_pos ⟨cs, fun h => cw ((pb1 x x0 x1).mp h).1⟩]
          · rw [if_neg (fun h => cs h.1), if_neg (fun h => cs h.1)])
      refine ⟨i1, ?_, ty_ch_tr cab c1 rfl rfl, v1, p1⟩
      rw [b114_15 hr _ _ _ _ _ _ _ hn5 hn6 hn7 hn8, if_neg (by omega), if_neg hW0, ra, Option.bind_some, px_psh_some, b114_36 hr _ _ _ _ _ _ _ hn5 hn6 hn7 hn8]
      exact rb.trans r1
end THB
