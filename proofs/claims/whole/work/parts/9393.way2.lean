/-! The call way. -/
theorem ok_way (g m k : Int) : ty_ok ty_CR 17 213 [vI g, vI m, vI k] := by
  intro L t r hr n d i l hn hc
  have hc' := ty_CR_mono hc
  have e46 : i 4 6 = i 124 4 ∧ 0 ≤ i 124 4 ∧ i 124 4 ≤ 10 := hc.2.1.2.1.2.2.2.1
  show ∃ (v : Int) (i1 l1 i2 l2 : MI), px_C (d + 33 + 4 + 1 + 1 + 1) 17 [vR 3, vI g, vI m, vI k] _ = _ ∧ px_C (d + 34 + 4 + 1 + 1) 213 [vR 123, vI g, vI m, vI k] _ = _ ∧ _
  by_cases hg : 0 ≤ g ∧ g < i 124 4
  · obtain ⟨⟨f1, f2, f3⟩, fh, fw, fp, fs, fa, fg, f46⟩ := ty_bank hc hg
    have hV := ty_V_CR hc
    have hgs := px_gs_mk21 (x := g) (by omega)
    by_cases hm : 0 ≤ m ∧ m ≤ 1439
    · by_cases hk : -1 ≤ k
      · obtain ⟨l1, e1, c1, h1⟩ := q75 (L := L) (r := r) (t := t) hr (d + 33 + 4) i l (fun c => i 124 (20 + 2 * c)) (i 124 (120 + 14 * g + 6)) (i 123 2) hgs f1 (by omega) (fun c c0 c1 => fh c c0 c1) fw
        obtain ⟨j, hj⟩ : ∃ j : MI, j = px_up i 110 7 (i (21 + g.toNat) 5) := ⟨_, rfl⟩
        have cj : ty_ch [110] i j := by
          rw [hj]
          exact ty_ch_up (by decide)
        have j123 := cj 123 (by decide)
        have hCS : ty_CS j l1 (ty_lev i) (fun c => i 124 (20 + 2 * c)) (fun c => decide (i 124 (21 + 2 * c) = 1)) (i 124 (120 + 14 * g + 6)) (i 124 (120 + 14 * g + 5)) (i 124 0) := by
          refine ⟨?_, ty_V_ch hV cj rfl, fun x _ _ => ty_lev_ch hV.1 cj rfl, ?_, ?_, ?_, fun v v0 v1 => ?_, fun c c0 c1 => ?_⟩
          · have j19 := cj 19 (by decide)
            have l19 := c1 19 (by decide)
            exact ty_D_c (i := i) (l := l) (by rw [j123]) (by rw [j123]) (by rw [j123]) (by rw [j19]) (by rw [j19]) (by rw [j19]) (by rw [l19]) (by rw [l19]) (by rw [l19]) (ty_gs_fr (fun k k0 k1 => cj k (fun h => by
              simp only [List.mem_cons, List.not_mem_nil, or_false] at h
              omega))) hc.1
          · rw [hj, ty_up_eq]
            exact fp
          · rw [cj 19 (by decide), j123]
            exact fa
          · rw [c1 19 (by decide), j123]
            exact fs
          · rw [j123]
            exact h1 v v0 v1
          · rw [j123] at c1
            have := fh c c0 c1
            show i 124 (20 + 2 * c) + i 124 (120 + 14 * g + 6) < 130
            omega
        obtain ⟨can, hcan⟩ : ∃ can, can = ty_can (ty_lev i) (fun c => i 124 (20 + 2 * c)) (i 124 (120 + 14 * g + 6)) := ⟨_, rfl⟩
        obtain ⟨sh, hsh⟩ : ∃ sh : Int → Bool, sh = (fun c => decide (i 124 (21 + 2 * c) = 1)) := ⟨_, rfl⟩
        obtain ⟨a, ha⟩ : ∃ a, a = i 124 0 := ⟨_, rfl⟩
        obtain ⟨p, hp⟩ : ∃ p, p = i 124 (120 + 14 * g + 5) := ⟨_, rfl⟩
        obtain ⟨i2, l2, e2, c2, v2, cl2, s2⟩ := q77 (L := L) (r := r) (t := t) hr (d + 33) j l1 _ _ _ _ _ _ m (by omega) hCS
        have hCS2 := ty_CS_c hCS c2 v2 cl2
        rw [j123, ← hcan, ← hsh, ← ha, ← hp] at e2 s2
        have ci2 : ty_ch [70, 71, 72, 110] i i2 := ty_ch_tr cj c2 rfl rfl
        have i2123 := ci2 123 (by decide)
        obtain ⟨st, hst⟩ : ∃ st : Int, st = ty_steps (i 123 0) (i 123 2) a m p can sh := ⟨_, rfl⟩
        rw [← hst] at e2 s2
        have hcl : px_C (d + 33 + 4 + 1 + 1 + 1) 17 [vR 3, vI g, vI m, vI k] (px_sh L, i, l, r, t) = px_X (d + 33 + 4 + 1 + 1 + 1) 17 (46, [vR 3, vI g, vI m, vI k, vR (21 + g.toNat), vJ], [vI st]) (px_sh L, i2, l2, r, t) := by
          rw [e17, b17_0 hr, q52R hr _ _ _ _ (by omega), Option.bind_some, px_psh_some, b17_8_g hr _ _ _ _ _ _ hgs, q31 hr, Option.bind_some, px_psh_some, b17_19 hr _ _ _ _ _ _ hgs, px_bi_T hm, if_neg (by omega), if_pos hk, e1, Option.bind_some, px_psh_none, b17_38 hr _ _ _ _ _ _ (px_nl_R _), ← hj, e2, Option.bind_some, px_psh_some]
        have hRSm : ∀ (i3 : MI), ty_ch [70, 71, 72, 110, 140, 146] i i3 → (∀ x : Int, 0 ≤ x → x < 1440 → i3 146 x = ty_lev i2 x) → ty_RS i3 (ty_lev i) (fun c => i 124 (20 + 2 * c)) (fun c => decide (i 124 (21 + 2 * c) = 1)) (i 124 (120 + 14 * g + 6)) (i 124 (120 + 14 * g + 5)) (i 124 0) g := fun i3 ci3 h3 => by
          have k123 := ci3 123 (by decide)
          have k124 := ci3 124 (by decide)
          have hD := hc.1
          unfold ty_RS
          rw [k123, k124]
          refine ⟨hD.1, hD.2.1, hD.2.2.1, ⟨f2, f3⟩, ⟨hg.1, fg⟩, fun x x0 x1 => ?_, fun c c0 c1 => ⟨rfl, (fh c c0 c1).2⟩, ⟨rfl, fw.2⟩, fun c _ _ => rfl, ⟨rfl, fp.2⟩, ⟨rfl, fa.2⟩⟩
          rw [h3 x x0 x1, ty_lev_ch hV.1 ci2 rfl]
        have href : ∀ lx : MI, ∃ i3 l3 i4 : MI, px_C (d + 34 + 4 + 1 + 1) 213 [vR 123, vI g, vI m, vI k] (px_sh L, i2, lx, r, t) = px_X (d + 34 + 4 + 1 + 1) 213 (32, [vR 123, vI g, vI m, vI k, vJ], [vI st]) (px_sh L, i4, l3, r, t) ∧ ty_ch [70, 71, 72, 110, 140, 146, 147] i i4 ∧ ty_ch [141] lx l3 ∧ ty_V i4 ∧ (0 < st → ∀ j : Nat, (j : Int) ≤ st → ∀ e, 0 ≤ e → e < i 123 2 → i4 147 (36 * (j : Int) + e) = ty_b (ty_com (i 123 0) (i 123 2) a m p can j e)) := fun lx => by
          obtain ⟨i3, l3, e3, c3, cl3, v3, h3⟩ := q207 (L := L) (r := r) (t := t) hr (d + 34) i2 lx v2
          have ci3 : ty_ch [70, 71, 72, 110, 140, 146] i i3 := ty_ch_tr ci2 c3 rfl rfl
          have k123 := ci3 123 (by decide)
          obtain ⟨i4, e4, c4, h4⟩ := q211 (L := L) (r := r) (t := t) hr (d + 34 + 3) i3 l3 _ _ _ _ _ _ g m (by omega) (hRSm i3 ci3 h3)
          rw [k123, ← hcan, ← hsh, ← ha, ← hp, ← hst] at e4 h4
          refine ⟨i3, l3, i4, ?_, ty_ch_tr ci3 c4 rfl rfl, cl3, ty_V_ch v3 c4 rfl, h4⟩
          rw [e213, b213_0 hr, q144' hr _ _ _ hc (ci2 124 (by decide)), Option.bind_some, px_psh_some, b213_5 hr, px_bi_T hg, if_neg (by omega), q145 hr, Option.bind_some, px_psh_some, b213_12 hr, px_bi_T hm, if_neg (by omega), if_pos hk, e3, Option.bind_some, px_psh_none, b213_26 hr, e4, Option.bind_some, px_psh_some]
        have cl02 : ty_ch [111, 112] l l2 := ty_ch_tr c1 cl2 rfl rfl
        by_cases hk1 : k = -1
        · obtain ⟨i3, l3, i4, r4, c4, cl4, v4, -⟩ := href l2
          refine ⟨st, i2, l2, i4, l3, ?_, ?_, ty_CR_lv hc (ty_ch_w c4 rfl) (ty_ch_w (ty_ch_tr cl02 cl4 (S'' := [111, 112, 141]) rfl rfl) rfl) v4, ci2 0 (by decide), c4 0 (by decide)⟩
          · rw [hcl, b17_46 hr _ _ _ _ _ _ (px_nl_R _), if_pos hk1]
          · rw [r4, b213_32 hr, if_pos hk1, b213_45 hr, if_pos hk1]
        · by_cases hks : st ≤ k
          · obtain ⟨i3, l3, i4, r4, c4, cl4, v4, -⟩ := href l2
            refine ⟨-1, i2, l2, i4, l3, ?_, ?_, ty_CR_lv hc (ty_ch_w c4 rfl) (ty_ch_w (ty_ch_tr cl02 cl4 (S'' := [111, 112, 141]) rfl rfl) rfl) v4, ci2 0 (by decide), c4 0 (by decide)⟩
            · rw [hcl, b17_46 hr _ _ _ _ _ _ (px_nl_R _), if_neg hk1, if_pos hks]
            · rw [r4, b213_32 hr, if_neg hk1, if_neg (by omega), b213_45 hr, if_neg hk1]
          · have hk0 : 0 ≤ k := by omega
            have hfb : st = -1 ∨ ∃ q : Nat, st = (q : Int) ∧ 0 ≤ q ∧ q < 0 + ((i 123 2).toNat + 1) ∧ ty_ash (i 123 0) (i 123 2) a m p can sh q = true := by
              rw [hst]
              exact ty_first_b _ _
            rcases hfb with hfb | ⟨q, q1, -, q3, q4⟩
            · omega
            · obtain ⟨kk, hkk⟩ : ∃ kk : Nat, k = (kk : Int) := ⟨k.toNat, by omega⟩
              have hC := hc.1.2.2.1
              have hB0 : tw_B (i 123 0) (i 123 2) (ty_com (i 123 0) (i 123 2) a m p can) sh q 0 a = true := by
                have h := tw_B_0 (W := i 123 0) (H := i 123 1) (a := a) (m := m) (p := p) (can := can) (sh := sh) hc.1.1 (n := q) (by rw [← hC]; exact q4) (by rw [← hC]; omega)
                rw [← hC] at h
                exact h
              have hone : ∀ c, ty_com (i 123 0) (i 123 2) a m p can 0 c = true → c = a := fun c h => of_decide_eq_true h
              obtain ⟨l3, c, r3, c3, p3⟩ := tw_78 (L := L) (r := r) (t := t) hr (d + 33 + 4) i2 l2 hCS2.1 (ty_com (i 123 0) (i 123 2) a m p can) sh a q kk (by omega) (by omega) (by
                have h := hCS2.2.2.2.2.2.1
                rw [← hsh] at h
                exact h) (by rw [i2123, ha]; exact fa.2) (fun j hj => by rw [i2123]; exact s2 j (by omega)) (by rw [i2123]; exact hB0) hone
              rw [i2123] at p3
              obtain ⟨i3, l4, i4, r4, c4, cl4, v4, h4⟩ := href l3
              have i4123 := c4 123 (by decide)
              have i4124 := c4 124 (by decide)
              obtain ⟨i5, r5, c5, p5⟩ := tw_212 (L := L) (r := r) (t := t) hr (d + 34 + 3) i4 l4 (ty_com (i 123 0) (i 123 2) a m p can) sh a q (by omega) (by rw [i4123]; exact hc.1.1) (by rw [i4123]; exact hc.1.2.1) (by rw [i4123]; exact hC) (by rw [i4123]; exact f3) (fun e _ _ => by rw [i4124, hsh]) (by rw [i4123, i4124, ha]; exact ⟨rfl, fa.2⟩) (fun j hj e e0 e1 => by
                rw [i4123] at e1
                exact h4 (by omega) j (by omega) e e0 e1) (by rw [i4123]; exact hB0)
              rw [i4123] at p5
              have hcc := tw_pt_u _ _ _ (p5 kk (by omega)) p3
              have c05 : ty_ch [70, 71, 72, 110, 140, 146, 147, 148] i i5 := ty_ch_tr c4 c5 rfl rfl
              refine ⟨c, i2, l3, i5, l4, ?_, ?_, ty_CR_lv hc (ty_ch_w c05 rfl) (ty_ch_w (ty_ch_tr (ty_ch_tr cl02 c3 (S'' := [111, 112]) rfl rfl) cl4 (S'' := [111, 112, 141]) rfl rfl) rfl) (ty_V_ch v4 c5 rfl), ci2 0 (by decide), c05 0 (by decide)⟩
              · rw [hcl, b17_46 hr _ _ _ _ _ _ (px_nl_R _), if_neg hk1, if_neg hks, q1, hkk, r3, Option.bind_some, px_psh_some, b17_72 hr _ _ _ _ _ _ (px_nl_R _)]
              · rw [r4, b213_32 hr, if_neg hk1, if_pos (by omega), q1, hkk, r5, Option.bind_some, px_psh_none, b213_63 hr _ _ _ _ _ _ _ (by omega), hcc]
      · refine ⟨-1, i, l, i, l, ?_, ?_, hc', rfl, rfl⟩
        · rw [e17, b17_0 hr, q52R hr _ _ _ _ (by omega), Option.bind_some, px_psh_some, b17_8_g hr _ _ _ _ _ _ hgs, q31 hr, Option.bind_some, px_psh_some, b17_19 hr _ _ _ _ _ _ hgs, px_bi_T hm, if_neg (by omega), if_neg hk]
        · rw [e213, b213_0 hr, q144' hr _ _ _ hc rfl, Option.bind_some, px_psh_some, b213_5 hr, px_bi_T hg, if_neg (by omega), q145 hr, Option.bind_some, px_psh_some, b213_12 hr, px_bi_T hm, if_neg (by omega), if_neg hk]
    · refine ⟨-1, i, l, i, l, ?_, ?_, hc', rfl, rfl⟩
      · rw [e17, b17_0 hr, q52R hr _ _ _ _ (by omega), Option.bind_some, px_psh_some, b17_8_g hr _ _ _ _ _ _ hgs, q31 hr, Option.bind_some, px_psh_some, b17_19 hr _ _ _ _ _ _ hgs, px_bi_F hm, if_pos rfl]
      · rw [e213, b213_0 hr, q144' hr _ _ _ hc rfl, Option.bind_some, px_psh_some, b213_5 hr, px_bi_T hg, if_neg (by omega), q145 hr, Option.bind_some, px_psh_some, b213_12 hr, px_bi_F hm, if_pos rfl]
  · refine ⟨-1, i, l, i, l, ?_, ?_, hc', rfl, rfl⟩
    · rw [e17, b17_0 hr, q52N hr _ _ _ _ (by omega), Option.bind_some, px_psh_some, b17_8_N hr]
    · rw [e213, b213_0 hr, q144' hr _ _ _ hc rfl, Option.bind_some, px_psh_some, b213_5 hr, px_bi_F hg, if_pos rfl]
