/-! The call pilot. -/
theorem ok_pilot (g m dr n0 : Int) : ty_ok ty_CR 19 218 [vI g, vI m, vI dr, vI n0] := by
  intro L t r hr n d i l hn hc
  have hc' := ty_CR_mono hc
  have e46 : i 4 6 = i 124 4 ∧ 0 ≤ i 124 4 ∧ i 124 4 ≤ 10 := hc.2.1.2.1.2.2.2.1
  show ∃ (v : Int) (i1 l1 i2 l2 : MI), px_C (d + 33 + 4 + 1 + 1 + 1) 19 [vR 3, vI g, vI m, vI dr, vI n0] _ = _ ∧ px_C (d + 36 + 1 + 1 + 1 + 1) 218 [vR 123, vI g, vI m, vI dr, vI n0] _ = _ ∧ _
  by_cases hg : 0 ≤ g ∧ g < i 124 4
  · obtain ⟨⟨f1, f2, f3⟩, fh, fw, fp, fs, fa, fg, f46⟩ := ty_bank hc hg
    have hV := ty_V_CR hc
    have hgs := px_gs_mk21 (x := g) (by omega)
    by_cases hm : 0 ≤ m ∧ m ≤ 1439
    · by_cases hd : 0 ≤ dr ∧ dr ≤ 3
      · by_cases hn0 : 1 ≤ n0 ∧ n0 ≤ 10
        · obtain ⟨k0, rfl⟩ : ∃ k0 : Nat, n0 = (k0 : Int) := ⟨n0.toNat, by omega⟩
          obtain ⟨l1, r1, c1, h1⟩ := q75 (L := L) (r := r) (t := t) hr (d + 33 + 4) i l (fun c => i 124 (20 + 2 * c)) (i 124 (120 + 14 * g + 6)) (i 123 2) hgs f1 (by omega) (fun c c0 c1 => fh c c0 c1) fw
          obtain ⟨j, hj⟩ : ∃ j : MI, j = px_up i 110 7 (i (21 + g.toNat) 5) := ⟨_, rfl⟩
          have cj : ty_ch [110] i j := by
            rw [hj]
            exact ty_ch_up (by decide)
          have j123 := cj 123 (by decide)
          obtain ⟨sh, hsh⟩ : ∃ sh : Int → Bool, sh = fun c => decide (i 124 (21 + 2 * c) = 1) := ⟨_, rfl⟩
          rw [← hsh] at fs
          have hCS : ty_CS j l1 (ty_lev i) (fun c => i 124 (20 + 2 * c)) sh (i 124 (120 + 14 * g + 6)) (i 124 (120 + 14 * g + 5)) (i 124 0) := by
            refine ⟨tq_Dl (tq_D hc.1 cj rfl) c1 rfl, ty_V_ch hV cj rfl, fun x _ _ => ty_lev_ch hV.1 cj rfl, ?_, ?_, ?_, fun v v0 v1 => ?_, fun c c0 c1 => ?_⟩
            · rw [hj, ty_up_eq]
              exact fp
            · rw [cj 19 (by decide), j123]
              exact fa
            · rw [c1 19 (by decide), j123]
              exact fs
            · rw [j123]
              exact h1 v v0 v1
            · rw [j123] at c1
              have := fh c c0 c1
              show i 124 (20 + 2 * c) + i 124 (120 + 14 * g + 6) < 130
              omega
          have hD := hc.1
          have hcl : px_C (d + 33 + 4 + 1 + 1 + 1) 19 [vR 3, vI g, vI m, vI dr, vI (k0 : Int)] (px_sh L, i, l, r, t) = (px_C (d + 33 + 4 + 1 + 1) 80 [vR 110, vI m, vI dr, vI (k0 : Int)] (px_sh L, j, l1, r, t)).bind (fun q => px_X (d + 33 + 4 + 1 + 1 + 1) 19 (px_psh (64, [vR 3, vI g, vI m, vI dr, vI (k0 : Int), vR (21 + g.toNat)], []) q.1) q.2) := by
            rw [e19, b19_0 hr, q52R hr _ _ _ _ (by omega), Option.bind_some, px_psh_some, b19_8_g hr _ _ _ _ _ _ _ hgs, q31 hr, Option.bind_some, px_psh_some, b19_19 hr _ _ _ _ _ _ _ hgs, px_bi_T hm, if_neg (by omega), q30 hr, Option.bind_some, px_psh_some, b19_28 hr _ _ _ _ _ _ _ hgs, px_bi_T hd, if_neg (by omega), q30 hr, Option.bind_some, px_psh_some, b19_39 hr _ _ _ _ _ _ _ hgs, px_bi_T hn0, if_neg (by omega), r1, Option.bind_some, px_psh_none, ← hj, b19_53 hr _ _ _ _ _ _ _ (px_nl_R _)]
          have ref : ∀ (x : MI) (y : MI), ty_ch [70, 71, 72, 110, 113] i x → ty_V x → ∃ x2 y2 : MI, px_C (d + 36 + 1 + 1 + 1 + 1) 218 [vR 123, vI g, vI m, vI dr, vI (k0 : Int)] (px_sh L, x, y, r, t) = px_X (d + 36 + 1 + 1 + 1 + 1) 218 (45, [vR 123, vI g, vI m, vI dr, vI (k0 : Int), vJ, vJ, vJ, vJ, vJ], []) (px_sh L, x2, y2, r, t) ∧ ty_ch [70, 71, 72, 110, 113, 140, 146, 149] i x2 ∧ ty_ch [141] y y2 ∧ ty_V x2 ∧ tq_gr x2 (i 123 0) (i 123 1) (i 123 2) ∧ tq_ref x2 (ty_lev i) (fun c => i 124 (20 + 2 * c)) sh (i 124 (120 + 14 * g + 6)) (i 124 (120 + 14 * g + 5)) (i 124 0) g (i 123 2) ∧ ((∃ s, (0 ≤ s ∧ s < i 123 2) ∧ sh s = true) → ∀ c, 0 ≤ c → c < i 123 2 → tq_far (i 123 0) (i 123 2) sh (x2 149 c) c ∧ x2 149 c ≤ i 123 2) ∧ ((∀ s, 0 ≤ s → s < i 123 2 → sh s = false) → x2 149 0 = 99) := fun x y cx vx => by
            obtain ⟨x1, y1, e1, cx1, cy1, v1, h3⟩ := q207 (L := L) (r := r) (t := t) hr (d + 34) x y vx
            have ci1 : ty_ch [70, 71, 72, 110, 113, 140, 146] i x1 := ty_ch_tr cx cx1 rfl rfl
            have k123 := ci1 123 (by decide)
            have k124 := ci1 124 (by decide)
            have hgr : tq_gr x1 (i 123 0) (i 123 1) (i 123 2) := by
              unfold tq_gr
              rw [k123]
              exact ⟨rfl, rfl, rfl, hD.2.2.1, hD.1, hD.2.1, f2, f3⟩
            have hrf : tq_ref x1 (ty_lev i) (fun c => i 124 (20 + 2 * c)) sh (i 124 (120 + 14 * g + 6)) (i 124 (120 + 14 * g + 5)) (i 124 0) g (i 123 2) := by
              unfold tq_ref
              rw [k124, hsh]
              refine ⟨⟨hg.1, fg⟩, fun x x0 x1 => ?_, fun c c0 c1 => ⟨rfl, (fh c c0 c1).2⟩, ⟨rfl, fw.2⟩, fun c _ _ => rfl, ⟨rfl, fp.2⟩, ⟨rfl, fa.2⟩⟩
              rw [h3 x x0 x1, ty_lev_ch hV.1 cx rfl]
            obtain ⟨x2, e2, cx2, far, none⟩ := tq_215 (L := L) (r := r) (t := t) hr (d + 37) x1 y1 sh hgr hrf.2.2.2.2.1
            have q123 := cx2 123 (by decide)
            have q124 := cx2 124 (by decide)
            have q146 := cx2 146 (by decide)
            refine ⟨x2, y1, ?_, ty_ch_tr ci1 cx2 rfl rfl, cy1, ty_V_ch v1 cx2 rfl, tq_gr_c hgr q123, tq_ref_c hrf q124 q146, far, none⟩
            rw [e218, b218_0 hr, q144' hr _ _ _ hc (cx 124 (by decide)), Option.bind_some, px_psh_some, b218_5 hr, px_bi_T hg, if_neg (by omega), q145 hr, Option.bind_some, px_psh_some, b218_12 hr, px_bi_T hm, if_neg (by omega), q141 hr, Option.bind_some, px_psh_some, b218_21 hr, px_bi_T hd, if_neg (by omega), q141 hr, Option.bind_some, px_psh_some, b218_32 hr, px_bi_T hn0, if_neg (by omega), e1, Option.bind_some, px_psh_none, b218_41 hr, e2, Option.bind_some, px_psh_none]
          by_cases hex : ∃ s, (0 ≤ s ∧ s < i 123 2) ∧ sh s = true
          · obtain ⟨A, ia, la, hA, ra, ca, cla, Va⟩ := tq_80 (L := L) (r := r) (t := t) hr (d + 33) j l1 (ty_lev i) (fun c => i 124 (20 + 2 * c)) sh (i 124 (120 + 14 * g + 6)) (i 124 (120 + 14 * g + 5)) (i 124 0) m dr k0 (by omega) hd (by omega) hCS (by rw [j123]; exact hex)
            rw [j123] at hA ra
            have ci : ty_ch [70, 71, 72, 110, 113] i ia := ty_ch_tr cj ca rfl rfl
            obtain ⟨x2, y2, r2, cx2, cy2, V2, hgr, hrf, far, -⟩ := ref ia la ci Va
            have hAe : ∀ e, 0 ≤ e → e < i 123 2 → x2 149 e = A e := fun e e0 e1 => tq_far_u (far hex e e0 e1).1 (hA e e0 e1)
            have haim : ∀ c, 0 ≤ c → c < i 123 2 → sh c = false → tq_aim (i 123 0) (i 123 2) A c ≠ -1 := fun c c0 c1 hcs => by
              have h := tq_aim_y (W := i 123 0) (H := i 123 1) (sh := sh) (A := A) (c := c) hD.1 (by rw [← hD.2.2.1]; exact hA) (by rw [← hD.2.2.1]; exact ⟨c0, c1⟩) hcs
              rw [← hD.2.2.1] at h
              exact h
            have h99 : ¬ x2 149 0 = 99 := by
              have := (far hex 0 (by omega) (by omega)).2
              omega
            obtain ⟨y3, r3, c3, p3⟩ := tq_218_0 (L := L) (r := r) (t := t) hr (d + 36 + 1 + 1 + 1) x2 g m dr (k0 : Int) (i 124 0) (i 123 2) hgr.2.2.1 f3 hrf.2.2.2.2.2.2.1 (i 123 2).toNat y2 0 (by omega) (by omega) (fun x x0 x1 => by omega)
            obtain ⟨y4, r4, c4, p4⟩ := tq_218_k (L := L) (r := r) (t := t) hr (d + 36) x2 (ty_lev i) (fun c => i 124 (20 + 2 * c)) sh (i 124 (120 + 14 * g + 6)) (i 124 (120 + 14 * g + 5)) (i 124 0) g (i 123 0) (i 123 1) (i 123 2) A hgr hrf hAe m dr k0 (by omega) hd (by omega) haim k0 0 y3 vJ px_nl_J (by omega) p3
            obtain ⟨hP1, hP2⟩ := tq_P_b (sh := sh) (A := A) (dr := dr) (a := i 124 0) (m := m) (pc := i 124 (120 + 14 * g + 5)) (can := ty_can (ty_lev i) (fun c => i 124 (20 + 2 * c)) (i 124 (120 + 14 * g + 6))) hD.1.1 (by omega) hd haim k0
            have h12 := tq_12 (k := k0) (by omega)
            have r5 := tq_218_s (L := L) (r := r) (t := t) hr (d + 36 + 1 + 1 + 1) x2 y4 sh g m dr (k0 : Int) ((12 ^ k0 : Nat) : Int) (i 123 2) (by omega) _ hgr.2.2.1 f3 hrf.2.2.2.2.1 p4 (fun c hc => by
              have h := tq_g_b (sh := sh) hP1 (B := ((12 ^ k0 : Nat) : Int)) hP2 (c := c) (by omega)
              exact ⟨h.1, by omega⟩) (i 123 2).toNat 0 (by omega)
            have r4' : px_X (d + 36 + 1 + 1 + 1 + 1) 218 (105, [vR 123, vI g, vI m, vI dr, vI (k0 : Int), vL 1, vJ, vI 1, vJ, vJ], []) (px_sh L, x2, y3, r, t) = _ := r4
            have r5' : px_X (d + 36 + 1 + 1 + 1 + 1) 218 (271, [vR 123, vI g, vI m, vI dr, vI (k0 : Int), vL ((12 ^ k0 : Nat) : Int), vJ, vL 0, vJ, vI 0], []) (px_sh L, x2, y4, r, t) = _ := r5
            refine ⟨tq_V sh (tq_P (i 123 0) (i 123 2) sh A dr (i 124 0) m (i 124 (120 + 14 * g + 5)) (ty_can (ty_lev i) (fun c => i 124 (20 + 2 * c)) (i 124 (120 + 14 * g + 6))) k0) (i 123 2) k0, ia, la, x2, y4, ?_, ?_, ty_CR_lv hc (ty_ch_w cx2 rfl) (ty_ch_tr (ty_ch_tr c1 cla (S'' := [111, 114, 115]) rfl rfl) (ty_ch_tr (ty_ch_tr cy2 c3 (S'' := [141, 150]) rfl rfl) c4 (S'' := [141, 150, 151]) rfl rfl) rfl rfl) V2, ci 0 (by decide), cx2 0 (by decide)⟩
            · rw [hcl, ra, Option.bind_some, px_psh_some, b19_64 hr _ _ _ _ _ _ _ (px_nl_R _)]
            · rw [r2, b218_45 hr, if_neg h99, r3, r4', r5', Int.mul_comm 1000]
              rfl
          · have hno : ∀ s, 0 ≤ s → s < i 123 2 → sh s = false := fun s s0 s1 => by
              cases hb : sh s with
              | false => rfl
              | true => exact absurd ⟨s, ⟨s0, s1⟩, hb⟩ hex
            have hz : l1 19 7 = 0 := by
              rw [c1 19 (by decide)]
              exact (ty_set_ne fs).mpr hno
            obtain ⟨x2, y2, r2, cx2, cy2, V2, -, -, -, hnone⟩ := ref j l1 (ty_ch_w cj rfl) (ty_V_ch hV cj rfl)
            refine ⟨0, j, l1, x2, y2, ?_, ?_, ty_CR_lv hc (ty_ch_w cx2 rfl) (ty_ch_tr c1 cy2 rfl rfl) V2, cj 0 (by decide), cx2 0 (by decide)⟩
            · rw [hcl, e80, b80_0 hr, if_pos (ty_cmp0.mpr hz), Option.bind_some, px_psh_some, b19_64 hr _ _ _ _ _ _ _ (px_nl_R _)]
            · rw [r2, b218_45 hr, if_pos (hnone hno)]
        · refine ⟨-1, i, l, i, l, ?_, ?_, hc', rfl, rfl⟩
          · rw [e19, b19_0 hr, q52R hr _ _ _ _ (by omega), Option.bind_some, px_psh_some, b19_8_g hr _ _ _ _ _ _ _ hgs, q31 hr, Option.bind_some, px_psh_some, b19_19 hr _ _ _ _ _ _ _ hgs, px_bi_T hm, if_neg (by omega), q30 hr, Option.bind_some, px_psh_some, b19_28 hr _ _ _ _ _ _ _ hgs, px_bi_T hd, if_neg (by omega), q30 hr, Option.bind_some, px_psh_some, b19_39 hr _ _ _ _ _ _ _ hgs, px_bi_F hn0, if_pos rfl]
          · rw [e218, b218_0 hr, q144' hr _ _ _ hc rfl, Option.bind_some, px_psh_some, b218_5 hr, px_bi_T hg, if_neg (by omega), q145 hr, Option.bind_some, px_psh_some, b218_12 hr, px_bi_T hm, if_neg (by omega), q141 hr, Option.bind_some, px_psh_some, b218_21 hr, px_bi_T hd, if_neg (by omega), q141 hr, Option.bind_some, px_psh_some, b218_32 hr, px_bi_F hn0, if_pos rfl]
      · refine ⟨-1, i, l, i, l, ?_, ?_, hc', rfl, rfl⟩
        · rw [e19, b19_0 hr, q52R hr _ _ _ _ (by omega), Option.bind_some, px_psh_some, b19_8_g hr _ _ _ _ _ _ _ hgs, q31 hr, Option.bind_some, px_psh_some, b19_19 hr _ _ _ _ _ _ _ hgs, px_bi_T hm, if_neg (by omega), q30 hr, Option.bind_some, px_psh_some, b19_28 hr _ _ _ _ _ _ _ hgs, px_bi_F hd, if_pos rfl]
        · rw [e218, b218_0 hr, q144' hr _ _ _ hc rfl, Option.bind_some, px_psh_some, b218_5 hr, px_bi_T hg, if_neg (by omega), q145 hr, Option.bind_some, px_psh_some, b218_12 hr, px_bi_T hm, if_neg (by omega), q141 hr, Option.bind_some, px_psh_some, b218_21 hr, px_bi_F hd, if_pos rfl]
    · refine ⟨-1, i, l, i, l, ?_, ?_, hc', rfl, rfl⟩
      · rw [e19, b19_0 hr, q52R hr _ _ _ _ (by omega), Option.bind_some, px_psh_some, b19_8_g hr _ _ _ _ _ _ _ hgs, q31 hr, Option.bind_some, px_psh_some, b19_19 hr _ _ _ _ _ _ _ hgs, px_bi_F hm, if_pos rfl]
      · rw [e218, b218_0 hr, q144' hr _ _ _ hc rfl, Option.bind_some, px_psh_some, b218_5 hr, px_bi_T hg, if_neg (by omega), q145 hr, Option.bind_some, px_psh_some, b218_12 hr, px_bi_F hm, if_pos rfl]
  · refine ⟨-1, i, l, i, l, ?_, ?_, hc', rfl, rfl⟩
    · rw [e19, b19_0 hr, q52N hr _ _ _ _ (by omega), Option.bind_some, px_psh_some, b19_8_N hr]
    · rw [e218, b218_0 hr, q144' hr _ _ _ hc rfl, Option.bind_some, px_psh_some, b218_5 hr, px_bi_F hg, if_pos rfl]
