/-! The reference's seating: perchFor (196), seats (197). -/
/-- the names that a wish rests on, but for those of the perch -/
def ty_nm (i : MI) (m g : Int) : Prop := i 140 0 = m ∧ i 140 3 = i 124 (120 + 14 * g) ∧ i 140 4 = i 124 (122 + 14 * g) ∧ i 140 5 = i 124 (123 + 14 * g) ∧ i 140 6 = i 124 (124 + 14 * g) ∧ i 140 8 = ty_lev i m
section TYW
variable {L t : Nat} {r : MR}
theorem ty_pf_n (hr : px_hr r) (d : Nat) (m g x3 : Int) (hm : 0 ≤ m ∧ m < 1440) (U : Int → Int) : ∀ (n : Nat) (i l : MI) (p best most : Int) (v8 : PV), ty_Q i → (0 ≤ g ∧ g < i 124 4) → ty_nm i m g → (∀ x, 0 ≤ x → x < i 124 3 → i 143 x = i 124 (101 + 2 * x) - U x ∧ 0 ≤ U x) → 0 ≤ p → p + n = i 124 3 →
    ∃ i1 l1 : MI, px_X (d + 4) 196 (73, [vR 123, vI g, vI m, vI x3, vI best, vL most, vJ, vI p, v8, vJ], []) (px_sh L, i, l, r, t) = some (some (vI (ty_pick (ty_wish i m g) U (fun p => i 124 (101 + 2 * p)) n p best most)), (px_sh L, i1, l1, r, t)) ∧ ty_ch [140] i i1 ∧ ty_ch [141] l l1
  | 0, i, l, p, best, most, v8, hQ, hg, hn, hR, h0, hp => by
    refine ⟨i, l, ?_, ty_ch_rf, ty_ch_rf⟩
    rw [bb196_73 hr _ _ _ _ _ _ _ _ _ (by omega), if_pos (by omega)]
    rfl
  | n + 1, i, l, p, best, most, v8, hQ, hg, hn, hR, h0, hp => by
    have b3 := hQ.2.2.1.2.2
    have hRp := hR p h0 (by omega)
    have hroom := (hQ.2.2.2.1 p h0 (by omega)).2.2
    have w1 : px_w32 (p + 1) = p + 1 := ty_w (by omega)
    have hhd := bb196_73 (L := L) (t := t) hr (d + 3) i l g m x3 best most p (v8 := v8) (by omega)
    rw [if_neg (by omega), hRp.1, w1] at hhd
    unfold ty_pick
    by_cases c1 : i 124 (101 + 2 * p) ≤ U p
    · obtain ⟨i2, l2, r2, c2, c2l⟩ := ty_pf_n hr d m g x3 hm U n i l (p + 1) best most v8 hQ hg hn hR (by omega) (by omega)
      refine ⟨i2, l2, ?_, c2, c2l⟩
      rw [hhd, if_pos (by omega), if_pos c1, r2]
    · obtain ⟨hn0, hn3, hn4, hn5, hn6, hn8⟩ := hn
      obtain ⟨j, hj⟩ : ∃ j : MI, j = px_up (px_up i 140 7 (i 124 (100 + 2 * p))) 140 9 (U p) := ⟨_, rfl⟩
      have cj : ty_ch [140] i j := by
        intro k hk
        have hk' : k ≠ 140 := fun e => hk (by rw [e]; exact List.mem_singleton.mpr rfl)
        rw [hj, ty_up_row hk', ty_up_row hk']
      have hQj : ty_Q j := ty_Q_ch hQ cj rfl
      have jj : ∀ v, ¬ v = 7 → ¬ v = 9 → j 140 v = i 140 v := fun v v7 v9 => by rw [hj, ty_up_j v9, ty_up_j v7]
      have j7 : j 140 7 = i 124 (100 + 2 * p) := by rw [hj, ty_up_j (by omega), ty_up_eq]
      have r124 : j 124 = i 124 := cj 124 (by decide)
      have jv : ∀ kind : Int, kind = 1 ∨ kind = 4 → ∀ v, 0 ≤ v → v < 15 → ty_may kind v → j 140 v = ty_we i m g p (U p) v := fun kind hk v v0 v1 hv => by
        rcases ty_may_w hk hv with rfl | rfl | rfl | rfl | rfl | rfl | rfl | rfl
        · rw [jj _ (by omega) (by omega), hn0]; rfl
        · rw [jj _ (by omega) (by omega), hn3]; rfl
        · rw [jj _ (by omega) (by omega), hn4]; rfl
        · rw [jj _ (by omega) (by omega), hn5]; rfl
        · rw [jj _ (by omega) (by omega), hn6]; rfl
        · rw [j7]; rfl
        · rw [jj _ (by omega) (by omega), hn8]; rfl
        · rw [hj, ty_up_eq]; rfl
      have hwb := ty_we_b hQ hm hg (p := p) (w := U p) ⟨h0, by omega⟩ (by omega)
      have hLj : ty_LW j := hQj.1.1
      have he : ∀ kind : Int, kind = 1 ∨ kind = 4 → ∀ v, 0 ≤ v → v < 15 → ty_may kind v → -1000000 ≤ j 140 v ∧ j 140 v ≤ 1000000 := fun kind hk v v0 v1 hv => by
        rw [jv kind hk v v0 v1 hv]
        exact hwb v
      obtain ⟨l1, r1, c1l⟩ := q189 (L := L) (t := t) hr d j l 4 hLj (he 4 (by omega))
      have e1 : ty_sov j 4 (j 140) = ty_sov i 4 (ty_we i m g p (U p)) := by
        rw [ty_sov_c hLj (jv 4 (by omega)), ty_sov_ch hQ.1.1 cj rfl]
      have nmj : ty_nm j m g := ⟨by rw [jj _ (by omega) (by omega)]; exact hn0, by rw [jj _ (by omega) (by omega), r124]; exact hn3, by rw [jj _ (by omega) (by omega), r124]; exact hn4, by rw [jj _ (by omega) (by omega), r124]; exact hn5, by rw [jj _ (by omega) (by omega), r124]; exact hn6, by rw [jj _ (by omega) (by omega), ty_lev_ch hQ.1.1 cj rfl]; exact hn8⟩
      have eW : ∀ (nn : Nat) (pp bb mm : Int), ty_pick (ty_wish j m g) U (fun p => j 124 (101 + 2 * p)) nn pp bb mm = ty_pick (ty_wish i m g) U (fun p => i 124 (101 + 2 * p)) nn pp bb mm := fun nn pp bb mm => by
        rw [r124]
        exact ty_pick_c _ _ _ _ (fun x _ _ => ⟨rfl, rfl, fun w => ty_wish_ch hQ.1.1 cj rfl⟩)
      have rest : ∀ (l' : MI) (bb mm : Int) (v : PV), ty_ch [141] l l' → ∃ i2 l2 : MI, px_X (d + 4) 196 (73, [vR 123, vI g, vI m, vI x3, vI bb, vL mm, vJ, vI (p + 1), v, vJ], []) (px_sh L, j, l', r, t) = some (some (vI (ty_pick (ty_wish i m g) U (fun p => i 124 (101 + 2 * p)) n (p + 1) bb mm)), (px_sh L, i2, l2, r, t)) ∧ ty_ch [140] i i2 ∧ ty_ch [141] l l2 := fun l' bb mm v hl' => by
        obtain ⟨i2, l2, r2, c2, c2l⟩ := ty_pf_n hr d m g x3 hm U n j l' (p + 1) bb mm v hQj (by rw [r124]; exact hg) nmj (by rw [r124, cj 143 (by decide)]; exact hR) (by omega) (by rw [r124]; omega)
        exact ⟨i2, l2, by rw [r2, eW], ty_ch_tr cj c2 rfl rfl, ty_ch_tr hl' c2l rfl rfl⟩
      have w2 : px_w32 (2 * p) = 2 * p := ty_w (by omega)
      have w3 : px_w32 (100 + 2 * p) = 100 + 2 * p := ty_w (by omega)
      have w4 : px_w32 (100 + 2 * p + 1) = 101 + 2 * p := by rw [ty_w (by omega)]; omega
      have w5 : px_w32 (i 124 (101 + 2 * p) - (i 124 (101 + 2 * p) - U p)) = U p := by rw [ty_w (by omega)]; omega
      have hb := bb196_106 (L := L) (t := t) hr (d + 3) i l g m x3 best most p (v8 := v8) (i 124 (100 + 2 * p)) 7
      rw [w2, w3, w4, hRp.1, w5, ← hj] at hb
      have hb := hb (by omega) (by omega) (by omega)
      rw [hhd, if_neg (by omega), if_neg c1, q194 hr _ _ _ _ (by omega), if_neg (by omega), Option.bind_some, px_psh_some, hb, r1, e1, Option.bind_some, px_psh_some, bb196_141 hr, j7, w1]
      by_cases c2 : ty_sov i 4 (ty_we i m g p (U p)) = true
      · have ew : ty_wish i m g p (U p) = -2000000 := if_pos c2
        rw [if_pos c2, if_neg (by omega), ew, if_pos rfl]
        exact rest l1 best most _ c1l
      · obtain ⟨l2, r2, c2l⟩ := q188 (L := L) (t := t) hr d j l1 1 (i 124 (100 + 2 * p)) hLj (by omega) (he 1 (by omega))
        have ef : ty_fnd j 1 = ty_fnd i 1 := ty_fnd_ch hQ.1.1 cj rfl
        have ew : ty_wish i m g p (U p) = if ty_fnd i 1 = -1 then i 124 (100 + 2 * p) else ty_vl i (ty_fnd i 1) (ty_we i m g p (U p)) := if_neg c2
        have ev : (if ty_fnd j 1 = -1 then i 124 (100 + 2 * p) else ty_vl j (ty_fnd j 1) (j 140)) = ty_wish i m g p (U p) := by
          rw [ew, ef]
          by_cases hf : ty_fnd i 1 = -1
          · rw [if_pos hf, if_pos hf]
          · rw [if_neg hf, if_neg hf, ← ef, ty_vl_c hLj (by rw [ef]; exact hf) (jv 1 (by omega)), ef, ty_vl_ch hQ.1.1 (ty_fnd_0 hf) cj rfl]
        have hwne : ¬ ty_wish i m g p (U p) = -2000000 := by
          rw [ew]
          have hh := (hQ.2.2.2.1 p h0 (by omega)).1.2
          by_cases hf : ty_fnd i 1 = -1
          · rw [if_pos hf]; omega
          · have := ty_vl_b hQ.1.1 hf (env := ty_we i m g p (U p)) (fun v _ _ _ => hwb v)
            rw [if_neg hf]; omega
        have cl : ty_ch [141] l l2 := ty_ch_tr c1l c2l rfl rfl
        rw [if_neg c2, if_pos rfl, r2, ev, Option.bind_some, px_psh_some, bb196_157 hr, w1, if_neg hwne]
        by_cases c3 : best = -1
        · rw [if_pos c3, if_pos c3]
          exact rest l2 _ _ _ cl
        · rw [if_neg c3, if_neg c3]
          simp only [cmp_le]
          by_cases c4 : ty_wish i m g p (U p) ≤ most
          · rw [if_pos c4, if_pos c4]
            exact rest l2 _ _ _ cl
          · rw [if_neg c4, if_neg c4]
            exact rest l2 _ _ _ cl
/-- perchFor -/
theorem q196 (hr : px_hr r) (d : Nat) (i l : MI) (m g : Int) (U : Int → Int) (hQ : ty_Q i) (hm : 0 ≤ m ∧ m < 1440) (hg : 0 ≤ g ∧ g < i 124 4) (hR : ∀ x, 0 ≤ x → x < i 124 3 → i 143 x = i 124 (101 + 2 * x) - U x ∧ 0 ≤ U x) :
    ∃ i1 l1 : MI, px_C (d + 4) 196 [vR 123, vI g, vI m, vI (ty_lev i m)] (px_sh L, i, l, r, t) = some (some (vI (ty_cho i m U g)), (px_sh L, i1, l1, r, t)) ∧ ty_ch [140] i i1 ∧ ty_ch [141] l l1 := by
  have b4 := hQ.2.1.2.2
  have b3 := hQ.2.2.1
  obtain ⟨j, hj⟩ : ∃ j : MI, j = px_up (px_up (px_up (px_up (px_up (px_up i 140 0 m) 140 3 (i 124 (120 + 14 * g))) 140 4 (i 124 (122 + 14 * g))) 140 5 (i 124 (123 + 14 * g))) 140 6 (i 124 (124 + 14 * g))) 140 8 (ty_lev i m) := ⟨_, rfl⟩
  have cj : ty_ch [140] i j := by
    intro k hk
    have hk' : k ≠ 140 := fun e => hk (by rw [e]; exact List.mem_singleton.mpr rfl)
    rw [hj, ty_up_row hk', ty_up_row hk', ty_up_row hk', ty_up_row hk', ty_up_row hk', ty_up_row hk']
  have hQj : ty_Q j := ty_Q_ch hQ cj rfl
  have r124 : j 124 = i 124 := cj 124 (by decide)
  have nmj : ty_nm j m g := by
    unfold ty_nm
    rw [r124, ty_lev_ch hQ.1.1 cj rfl, hj]
    refine ⟨?_, ?_, ?_, ?_, ?_, ty_up_eq⟩
    · rw [ty_up_j (by omega), ty_up_j (by omega), ty_up_j (by omega), ty_up_j (by omega), ty_up_j (by omega), ty_up_eq]
    · rw [ty_up_j (by omega), ty_up_j (by omega), ty_up_j (by omega), ty_up_j (by omega), ty_up_eq]
    · rw [ty_up_j (by omega), ty_up_j (by omega), ty_up_j (by omega), ty_up_eq]
    · rw [ty_up_j (by omega), ty_up_j (by omega), ty_up_eq]
    · rw [ty_up_j (by omega), ty_up_eq]
  obtain ⟨i1, l1, r1, c1, c1l⟩ := ty_pf_n (L := L) (t := t) hr d m g (ty_lev i m) hm U (i 124 3).toNat j l 0 (-1) 0 vJ hQj (by rw [r124]; exact hg) nmj (by rw [r124, cj 143 (by decide)]; exact hR) (by omega) (by rw [r124]; omega)
  have s1 : ∀ (f : MI) (x v : Int), px_up f 140 x v 124 = f 124 := fun f x v => ty_up_row (by decide)
  refine ⟨i1, l1, ?_, ty_ch_tr cj c1 rfl rfl, c1l⟩
  rw [e196, b196_0 hr, q146 hr _ _ _ _ _ (by omega) (by omega), Option.bind_some, px_psh_some, b196_18 hr _ _ _ _ _ _ _ _ (by omega), q146 hr _ _ _ _ _ (by omega) (by omega), Option.bind_some, px_psh_some, b196_30 hr _ _ _ _ _ _ _ _ (by omega), q146 hr _ _ _ _ _ (by omega) (by omega), Option.bind_some, px_psh_some, b196_42 hr _ _ _ _ _ _ _ _ (by omega), q146 hr _ _ _ _ _ (by omega) (by omega), Option.bind_some, px_psh_some, b196_55 hr _ _ _ _ _ _ _ _ (by omega), show 120 + 14 * g + 0 = 120 + 14 * g by omega, show 120 + 14 * g + 2 = 122 + 14 * g by omega, show 120 + 14 * g + 3 = 123 + 14 * g by omega, show 120 + 14 * g + 4 = 124 + 14 * g by omega]
  simp only [s1]
  rw [← hj, r1]
  have eW : ty_pick (ty_wish j m g) U (fun p => j 124 (101 + 2 * p)) (i 124 3).toNat 0 (-1) 0 = ty_cho i m U g := by
    rw [r124]
    exact ty_pick_c _ _ _ _ (fun x _ _ => ⟨rfl, rfl, fun w => ty_wish_ch hQ.1.1 cj rfl⟩)
  rw [eW]
theorem ty_room_n (hr : px_hr r) (d : Nat) (l : MI) (x1 x2 x3 : Int) : ∀ (n : Nat) (i : MI) (p : Int), 0 ≤ p → p + n = i 124 3 → i 124 3 ≤ 8 → (∀ x, 0 ≤ x → x < p → i 143 x = i 124 (101 + 2 * x)) →
    ∃ i1 : MI, px_X d 197 (9, [vR 123, vI x1, vI x2, vI x3, vI p, vJ], []) (px_sh L, i, l, r, t) = px_X d 197 (50, [vR 123, vI x1, vI x2, vI x3, vI 0, vJ], []) (px_sh L, i1, l, r, t) ∧ ty_ch [143] i i1 ∧ ∀ x, 0 ≤ x → x < i 124 3 → i1 143 x = i 124 (101 + 2 * x)
  | 0, i, p, h0, hp, h8, hx => by
    refine ⟨i, ?_, ty_ch_rf, fun x x0 x1 => hx x x0 (by omega)⟩
    rw [b197_9 hr _ _ _ _ _ _ _ (fun h => absurd (by omega) h) (fun h => absurd (by omega) h), if_pos (by omega)]
  | n + 1, i, p, h0, hp, h8, hx => by
    have w1 : px_w32 (p + 1) = p + 1 := ty_w (by omega)
    have w2 : px_w32 (2 * p) = 2 * p := ty_w (by omega)
    have w3 : px_w32 (100 + 2 * p) = 100 + 2 * p := ty_w (by omega)
    have w4 : px_w32 (100 + 2 * p + 1) = 101 + 2 * p := by rw [ty_w (by omega)]; omega
    have hb := b197_9 (L := L) (t := t) hr d i l x1 x2 x3 p
    rw [w2, w3, w4, w1] at hb
    have c1 : ty_ch [143] i (px_up i 143 p (i 124 (101 + 2 * p))) := ty_ch_up (by decide)
    obtain ⟨i2, r2, c2, p2⟩ := ty_room_n hr d l x1 x2 x3 n (px_up i 143 p (i 124 (101 + 2 * p))) (p + 1) (by omega) (by rw [ty_up_row (by decide)]; omega) (by rw [ty_up_row (by decide)]; exact h8) (fun x x0 x1 => by
      rw [ty_up_row (k' := 124) (by decide)]
      by_cases hxp : x = p
      · rw [hxp, ty_up_eq]
      · rw [ty_up_j hxp]
        exact hx x x0 (by omega))
    refine ⟨i2, ?_, ty_ch_tr c1 c2 rfl rfl, fun x x0 x1 => ?_⟩
    · rw [hb (by omega) (by omega), if_neg (by omega), r2]
    · have := p2 x x0 (by rw [ty_up_row (by decide)]; exact x1)
      rw [ty_up_row (k' := 124) (by decide)] at this
      exact this
theorem ty_nob_n (hr : px_hr r) (d : Nat) (l : MI) (x1 x2 x3 : Int) : ∀ (n : Nat) (i : MI) (k : Int), 0 ≤ k → k + n = 10 → (∀ x, 0 ≤ x → x < k → i 144 x = 0 ∧ i 142 x = -2) →
    ∃ i1 : MI, px_X (d + 1) 197 (50, [vR 123, vI x1, vI x2, vI x3, vI k, vJ], []) (px_sh L, i, l, r, t) = px_X (d + 1) 197 (50, [vR 123, vI x1, vI x2, vI x3, vI 10, vJ], []) (px_sh L, i1, l, r, t) ∧ ty_ch [142, 144] i i1 ∧ ∀ x, 0 ≤ x → x < 10 → i1 144 x = 0 ∧ i1 142 x = -2
  | 0, i, k, h0, hk, hx => by
    refine ⟨i, ?_, ty_ch_rf, fun x x0 x1 => hx x x0 (by omega)⟩
    rw [show k = 10 by omega]
  | n + 1, i, k, h0, hk, hx => by
    have w1 : px_w32 (k + 1) = k + 1 := ty_w (by omega)
    have c1 : ty_ch [142, 144] i (px_up (px_up i 144 k 0) 142 k (-2)) := ty_ch_tr (ty_ch_up (S := [144]) (by decide)) (ty_ch_up (S := [142]) (by decide)) rfl rfl
    obtain ⟨i2, r2, c2, p2⟩ := ty_nob_n hr d l x1 x2 x3 n (px_up (px_up i 144 k 0) 142 k (-2)) (k + 1) (by omega) (by omega) (fun x x0 x1 => by
      rw [ty_up_row (k' := 144) (by decide)]
      by_cases hxk : x = k
      · rw [hxk, ty_up_eq, ty_up_eq]
        exact ⟨rfl, rfl⟩
      · rw [ty_up_j hxk, ty_up_j hxk, ty_up_row (by decide)]
        exact hx x x0 (by omega))
    refine ⟨i2, ?_, ty_ch_tr c1 c2 rfl rfl, p2⟩
    rw [b197_50 hr _ _ _ _ _ _ _ (by omega), if_neg (by omega), w1, r2]
end TYW
