/-! The reference's seats (197); seat. -/
section TYX
variable {L t : Nat} {r : MR}
theorem ty_seats_n (hr : px_hr r) (d : Nat) (m s : Int) (hm : 0 ≤ m ∧ m < 1440) (hs : 0 ≤ s ∧ s < 1024) : ∀ (n : Nat) (i l : MI) (k x4 : Int) (v5 : PV) (U PL : Int → Int), px_nl v5 → ty_Q i → 0 ≤ k → k + n = i 124 4 → (∀ x, 0 ≤ x → x < i 124 3 → i 143 x = i 124 (101 + 2 * x) - U x ∧ 0 ≤ U x) → (∀ x, 0 ≤ x → x < 10 → i 144 x = 0 ∨ i 144 x = 1) → (∀ g, 0 ≤ g → g < i 124 4 → ty_bit s g = true → (i 144 g = 0 ↔ ∃ x, k ≤ x ∧ x < i 124 4 ∧ i 17 x = g)) → ty_ng (i 124) (i 144) s x4 (i 124 4) →
      (∀ x, 0 ≤ x → x < 10 → i 142 x = if x < i 124 4 ∧ ty_bit s x = true ∧ i 144 x = 1 then PL x else -2) →
    ∃ i1 l1 : MI, px_X (d + 5) 197 (87, [vR 123, vI s, vI m, vI (ty_lev i m), vI x4, v5], []) (px_sh L, i, l, r, t) = some (none, (px_sh L, i1, l1, r, t)) ∧ ty_ch [140, 142, 143, 144] i i1 ∧ ty_ch [141] l l1 ∧ ∀ x, 0 ≤ x → x < 10 → i1 142 x = if x < i 124 4 ∧ ty_bit s x = true then ty_sit (ty_cho i m) s (ty_ordf (i 17) n k) U PL x else -2
  | 0, i, l, k, x4, v5, U, PL, hn5, hQ, h0, hk, hR, h01, hse, hng, hpl => by
    have b4 := hQ.2.1.2
    have hx4 : x4 = -1 := by
      rcases hng with ⟨h1, -⟩ | ⟨h1, h2, h3, h4, -⟩
      · exact h1
      · obtain ⟨x, g1, g2, -⟩ := (hse x4 h1 h2 h3).mp h4
        omega
    refine ⟨i, l, ?_, ty_ch_rf, ty_ch_rf, fun x x0 x1 => ?_⟩
    · rw [b197_87 hr _ _ _ _ _ _ _ hn5, if_pos hx4]
    · rw [hpl x x0 x1]
      by_cases hc : x < i 124 4 ∧ ty_bit s x = true
      · have h1 : i 144 x = 1 := by
          rcases h01 x x0 x1 with h | h
          · obtain ⟨y, g1, g2, -⟩ := (hse x x0 hc.1 hc.2).mp h
            omega
          · exact h
        rw [if_pos ⟨hc.1, hc.2, h1⟩, if_pos hc]
        rfl
      · rw [if_neg hc, if_neg (fun h => hc ⟨h.1, h.2.1⟩)]
  | n + 1, i, l, k, x4, v5, U, PL, hn5, hQ, h0, hk, hR, h01, hse, hng, hpl => by
    have b4 := hQ.2.1.2
    have b3 := hQ.2.2.1.2
    have ho : 0 ≤ i 17 k ∧ i 17 k < i 124 4 := hQ.2.2.2.2.2.1 k h0 (by omega)
    have hsort : ∀ x, k < x → x < i 124 4 → i 124 (120 + 14 * i 17 x) < i 124 (120 + 14 * i 17 k) ∨ (i 124 (120 + 14 * i 17 x) = i 124 (120 + 14 * i 17 k) ∧ i 17 k < i 17 x) := fun x x0 x1 => hQ.2.2.2.2.2.2 k x h0 x0 x1
    have eo : ty_ordf (i 17) (n + 1) k = i 17 k :: ty_ordf (i 17) n (k + 1) := rfl
    rw [eo]
    by_cases hb : ty_bit s (i 17 k) = true
    · obtain ⟨g, hg⟩ : ∃ g, g = i 17 k := ⟨_, rfl⟩
      have h144 : i 144 (i 17 k) = 0 := (hse (i 17 k) ho.1 ho.2 hb).mpr ⟨k, by omega, by omega, rfl⟩
      have hx4 : x4 = i 17 k := by
        rcases hng with ⟨-, h2⟩ | ⟨h1, h2, h3, h4, h5⟩
        · exact absurd ⟨hb, h144⟩ (h2 (i 17 k) ho.1 ho.2)
        · obtain ⟨x, g1, g2, g3⟩ := (hse x4 h1 h2 h3).mp h4
          have h6 := h5 (i 17 k) ho.1 ho.2 hb h144
          by_cases hxk : x = k
          · rw [← g3, hxk]
          · have h7 := hsort x (by omega) g2
            rw [g3] at h7
            omega
      obtain ⟨i1, l1, r1, c1, c1l⟩ := q196 (L := L) (t := t) hr d i l m (i 17 k) U hQ hm ho hR
      obtain ⟨c, hcd⟩ : ∃ c : Int, c = ty_cho i m U (i 17 k) := ⟨_, rfl⟩
      rw [← hcd] at r1
      have hcb : c = -1 ∨ (0 ≤ c ∧ c < i 124 3) := by
        have := ty_pick_b (W := ty_wish i m (i 17 k)) (u := U) (room := fun p => i 124 (101 + 2 * p)) (i 124 3).toNat 0 (-1) 0 (by omega) (Or.inl rfl)
        rw [hcd]
        rcases this with h | ⟨h1, h2, h3⟩
        · exact Or.inl h
        · exact Or.inr ⟨h1, by have : ty_cho i m U (i 17 k) < 0 + ((i 124 3).toNat : Int) := h2; omega⟩
      have r142 : i1 142 = i 142 := c1 142 (by decide)
      have r143 : i1 143 = i 143 := c1 143 (by decide)
      have r144 : i1 144 = i 144 := c1 144 (by decide)
      obtain ⟨j, hj1, hj2, hj3, cj, rj⟩ : ∃ j : MI, (∀ x, 0 ≤ x → x < i 124 3 → j 143 x = i 124 (101 + 2 * x) - (if x = c then U x + 1 else U x)) ∧ (∀ x, j 144 x = if x = i 17 k then 1 else i 144 x) ∧ (∀ x, j 142 x = if x = i 17 k then c else i 142 x) ∧ ty_ch [142, 143, 144] i1 j ∧ px_X (d + 5) 197 (101, [vR 123, vI s, vI m, vI (ty_lev i m), vI (i 17 k), v5], [vI c]) (px_sh L, i1, l1, r, t) = px_X (d + 5) 197 (137, [vR 123, vI s, vI m, vI (ty_lev i m), vI (i 17 k), vI c], []) (px_sh L, j, l1, r, t) := by
        rw [b197_101 hr _ _ _ _ _ _ _ hn5 _ (by omega) (by omega)]
        rcases hcb with h1 | h1
        · refine ⟨px_up (px_up i1 142 (i 17 k) c) 144 (i 17 k) 1, fun x x0 x1 => ?_, fun x => ?_, fun x => ?_, ?_, ?_⟩
          · rw [ty_up_row (by decide), ty_up_row (by decide), r143, if_neg (by omega)]
            exact (hR x x0 x1).1
          · by_cases hx : x = i 17 k
            · rw [if_pos hx, hx, ty_up_eq]
            · rw [if_neg hx, ty_up_j hx, ty_up_row (by decide), r144]
          · rw [ty_up_row (by decide)]
            by_cases hx : x = i 17 k
            · rw [if_pos hx, hx, ty_up_eq]
            · rw [if_neg hx, ty_up_j hx, r142]
          · exact ty_ch_tr (ty_ch_up (S := [142]) (by decide)) (ty_ch_up (S := [144]) (by decide)) rfl rfl
          · rw [if_pos h1]
        · have hRc := hR c h1.1 h1.2
          have hroom := (hQ.2.2.2.1 c h1.1 h1.2).2.2
          have hUc : U c < 2000000000 := by
            have := ty_pick_b (W := ty_wish i m (i 17 k)) (u := U) (room := fun p => i 124 (101 + 2 * p)) (i 124 3).toNat 0 (-1) 0 (by omega) (Or.inl rfl)
            rcases this with h | ⟨-, -, h3⟩
            · have : ty_cho i m U (i 17 k) = -1 := h
              omega
            · have h3 : U (ty_cho i m U (i 17 k)) < i 124 (101 + 2 * ty_cho i m U (i 17 k)) := h3
              rw [← hcd] at h3
              omega
          have w2 : px_w32 (i 143 c - 1) = i 143 c - 1 := ty_w (by omega)
          refine ⟨px_up (px_up (px_up i1 142 (i 17 k) c) 144 (i 17 k) 1) 143 c (i 143 c - 1), fun x x0 x1 => ?_, fun x => ?_, fun x => ?_, ?_, ?_⟩
          · by_cases hx : x = c
            · rw [if_pos hx, hx, ty_up_eq, hRc.1]
              omega
            · rw [if_neg hx, ty_up_j hx, ty_up_row (by decide), ty_up_row (by decide), r143]
              exact (hR x x0 x1).1
          · rw [ty_up_row (by decide)]
            by_cases hx : x = i 17 k
            · rw [if_pos hx, hx, ty_up_eq]
            · rw [if_neg hx, ty_up_j hx, ty_up_row (by decide), r144]
          · rw [ty_up_row (by decide), ty_up_row (by decide)]
            by_cases hx : x = i 17 k
            · rw [if_pos hx, hx, ty_up_eq]
            · rw [if_neg hx, ty_up_j hx, r142]
          · exact ty_ch_tr (ty_ch_tr (ty_ch_up (S := [142]) (by decide)) (ty_ch_up (S := [144]) (by decide)) (S'' := [142, 144]) rfl rfl) (ty_ch_up (S := [143]) (by decide)) rfl rfl
          · rw [if_neg (by omega), r143, w2]
      have cc : ty_ch [140, 142, 143, 144] i j := ty_ch_tr c1 cj rfl rfl
      have hQj : ty_Q j := ty_Q_ch hQ cc rfl
      have r124 : j 124 = i 124 := cc 124 (by decide)
      have r17 : j 17 = i 17 := cc 17 (by decide)
      have el : ty_lev j m = ty_lev i m := ty_lev_ch hQ.1.1 cc rfl
      obtain ⟨v, rv, hv⟩ := q195 (L := L) (t := t) hr (d + 3) j l1 s hs (by rw [r124]; exact b4)
      obtain ⟨i2, l2, r2, c2, c2l, p2⟩ := ty_seats_n hr d m s hm hs n j l1 (k + 1) v (vI c) (fun p => if p = c then U p + 1 else U p) (fun x => if x = i 17 k then c else PL x) (px_nl_I _) hQj (by omega) (by rw [r124]; omega) (by
          rw [r124]
          intro x x0 x1
          refine ⟨hj1 x x0 x1, ?_⟩
          have := (hR x x0 x1).2
          show 0 ≤ (if x = c then U x + 1 else U x)
          by_cases hx : x = c
          · rw [if_pos hx]; omega
          · rw [if_neg hx]; omega) (fun x x0 x1 => by
          rw [hj2]
          by_cases hx : x = i 17 k
          · rw [if_pos hx]; exact Or.inr rfl
          · rw [if_neg hx]; exact h01 x x0 x1) (by
          rw [r124, r17]
          intro g' g0 g1 g2
          rw [hj2]
          by_cases hx : g' = i 17 k
          · rw [if_pos hx]
            constructor
            · intro h; omega
            · rintro ⟨x, x0, x1, x2⟩
              have := hsort x (by omega) x1
              rw [x2, hx] at this
              omega
          · rw [if_neg hx, hse g' g0 g1 g2]
            constructor
            · rintro ⟨x, x0, x1, x2⟩
              by_cases hxk : x = k
              · rw [hxk] at x2
                exact absurd x2.symm hx
              · exact ⟨x, by omega, x1, x2⟩
            · rintro ⟨x, x0, x1, x2⟩
              exact ⟨x, by omega, x1, x2⟩) hv (by
          rw [r124]
          intro x x0 x1
          rw [hj2, hj3]
          by_cases hx : x = i 17 k
          · rw [if_pos hx, if_pos hx, if_pos ⟨by rw [hx]; exact ho.2, by rw [hx]; exact hb, rfl⟩, if_pos hx]
          · rw [if_neg hx, if_neg hx, if_neg hx]
            exact hpl x x0 x1)
      refine ⟨i2, l2, ?_, ty_ch_tr cc c2 rfl rfl, ty_ch_tr c1l c2l rfl rfl, fun x x0 x1 => ?_⟩
      · rw [el] at r2
        rw [b197_87 hr _ _ _ _ _ _ _ hn5, hx4, if_neg (by omega), r1, Option.bind_some, px_psh_some, rj, b197_137 hr, rv, Option.bind_some, px_psh_some, b197_142 hr, r2]
      · have eC : ty_cho j m = ty_cho i m := funext (fun u => funext (fun g => ty_cho_ch hQ.1.1 cc rfl))
        have eS : ty_sit (ty_cho i m) s (i 17 k :: ty_ordf (i 17) n (k + 1)) U PL = ty_sit (ty_cho i m) s (ty_ordf (i 17) n (k + 1)) (fun p => if p = c then U p + 1 else U p) (fun x => if x = i 17 k then c else PL x) := by
          show (if ty_bit s (i 17 k) = true then _ else _) = _
          rw [if_pos hb, ← hcd]
        rw [p2 x x0 x1, eC, r17, r124, eS]
    · have e1 : ty_sit (ty_cho i m) s (i 17 k :: ty_ordf (i 17) n (k + 1)) U PL = ty_sit (ty_cho i m) s (ty_ordf (i 17) n (k + 1)) U PL := by
        show (if ty_bit s (i 17 k) = true then _ else _) = _
        rw [if_neg hb]
      rw [e1]
      exact ty_seats_n hr d m s hm hs n i l (k + 1) x4 v5 U PL hn5 hQ (by omega) (by omega) hR h01 (fun g' g0 g1 g2 => by
        rw [hse g' g0 g1 g2]
        constructor
        · rintro ⟨x, x0, x1, x2⟩
          by_cases hxk : x = k
          · rw [hxk] at x2
            rw [x2] at hb
            exact absurd g2 hb
          · exact ⟨x, by omega, x1, x2⟩
        · rintro ⟨x, x0, x1, x2⟩
          exact ⟨x, by omega, x1, x2⟩) hng hpl
/-- seats -/
theorem q197 (hr : px_hr r) (d : Nat) (i l : MI) (m s : Int) (hQ : ty_Q i) (hm : 0 ≤ m ∧ m < 1440) (hs : 0 ≤ s ∧ s < 1024) :
    ∃ i1 l1 : MI, px_C (d + 5) 197 [vR 123, vI s, vI m] (px_sh L, i, l, r, t) = some (none, (px_sh L, i1, l1, r, t)) ∧ ty_ch [140, 142, 143, 144] i i1 ∧ ty_ch [141] l l1 ∧ ∀ x, 0 ≤ x → x < 10 → i1 142 x = if x < i 124 4 ∧ ty_bit s x = true then ty_place i m s x else -2 := by
  have b4 := hQ.2.1.2
  have b3 := hQ.2.2.1.2
  obtain ⟨i1, l1, r1, c1, c1l, -, v1⟩ := q192 (L := L) (t := t) hr d i l m hQ.1 hm
  have r124 : i1 124 = i 124 := c1 124 (by decide)
  obtain ⟨i2, r2, c2, p2⟩ := ty_room_n (L := L) (t := t) hr (d + 5) l1 s m (ty_lev i m) (i1 124 3).toNat i1 0 (by omega) (by rw [r124]; omega) (by rw [r124]; omega) (fun x x0 x1 => by omega)
  obtain ⟨i3, r3, c3, p3⟩ := ty_nob_n (L := L) (t := t) hr (d + 4) l1 s m (ty_lev i m) 10 i2 0 (by omega) (by omega) (fun x x0 x1 => by omega)
  have cc : ty_ch [140, 142, 143, 144] i i3 := ty_ch_tr (ty_ch_tr c1 c2 (S'' := [140, 143]) rfl rfl) c3 rfl rfl
  have q3 : ty_Q i3 := ty_Q_ch hQ cc rfl
  have t124 : i3 124 = i 124 := cc 124 (by decide)
  have t17 : i3 17 = i 17 := cc 17 (by decide)
  have t143 : i3 143 = i2 143 := c3 143 (by decide)
  have el : ty_lev i3 m = ty_lev i m := ty_lev_ch hQ.1.1 cc rfl
  obtain ⟨v, rv, hv⟩ := q195 (L := L) (t := t) hr (d + 3) i3 l1 s hs (by rw [t124]; exact b4)
  obtain ⟨i4, l4, r4, c4, c4l, p4⟩ := ty_seats_n (L := L) (t := t) hr d m s hm hs (i 124 4).toNat i3 l1 0 v vJ (fun _ => 0) (fun _ => -1) px_nl_J q3 (by omega) (by rw [t124]; omega) (by
      rw [t124, t143]
      intro x x0 x1
      have := p2 x x0 (by rw [r124]; exact x1)
      rw [r124] at this
      exact ⟨by omega, Int.le_refl 0⟩) (fun x x0 x1 => Or.inl (p3 x x0 x1).1) (by
      rw [t124, t17]
      intro g g0 g1 _
      obtain ⟨x, x0, x1, x2⟩ := ty_ord_all hQ.2 ⟨g0, g1⟩
      exact ⟨fun _ => ⟨x, x0, x1, x2⟩, fun _ => (p3 g g0 (by omega)).1⟩) hv (fun x x0 x1 => by
      rw [(p3 x x0 x1).2, if_neg]
      intro h
      have := (p3 x x0 x1).1
      omega)
  refine ⟨i4, l4, ?_, ty_ch_tr cc c4 rfl rfl, ty_ch_tr c1l c4l rfl rfl, fun x x0 x1 => ?_⟩
  · rw [el] at r4
    rw [e197, b197_0 hr, r1, Option.bind_some, px_psh_some, b197_5 hr, r2, r3, b197_50 hr _ _ _ _ _ _ _ (by omega), if_pos (by omega), rv, Option.bind_some, px_psh_some, b197_85 hr, r4]
  · have eC : ty_cho i3 m = ty_cho i m := funext (fun u => funext (fun g => ty_cho_ch hQ.1.1 cc rfl))
    rw [p4 x x0 x1, eC, t17, t124]
    rfl
end TYX
theorem ty_place_ch {S : List Nat} {i i' : MI} {m s : Int} (hL : ty_LW i) (hc : ty_ch S i i') (hS : S.all (fun k => decide (k ≠ 4 ∧ k ≠ 17 ∧ k ≠ 124 ∧ (k < 73 ∨ 103 ≤ k))) = true) : ty_place i' m s = ty_place i m s := by
  have hm : ∀ k, k ∈ S → k ≠ 4 ∧ k ≠ 17 ∧ k ≠ 124 ∧ (k < 73 ∨ 103 ≤ k) := fun k hk => of_decide_eq_true (List.all_eq_true.mp hS k hk)
  have hS' : S.all (fun k => decide (k ≠ 4 ∧ k ≠ 124 ∧ (k < 73 ∨ 103 ≤ k))) = true := List.all_eq_true.mpr (fun k hk => by have := hm _ hk; exact decide_eq_true (by omega))
  have eC : ty_cho i' m = ty_cho i m := funext (fun u => funext (fun g => ty_cho_ch hL hc hS'))
  unfold ty_place ty_ord
  rw [eC, hc 17 (fun hk => (hm _ hk).2.1 rfl), hc 124 (fun hk => (hm _ hk).2.2.1 rfl)]
theorem ty_hset_ch {i i' : MI} (h : i' 124 = i 124) : ty_hset i' = ty_hset i := by
  unfold ty_hset
  rw [h]
/-- seat -/
theorem ok_seat (a b : Int) : ty_ok ty_CR 13 199 [vI a, vI b] := by
  intro L t r hr n d i l hn hc
  have hc' := ty_CR_mono hc
  have hQ := ty_Q_CR hc
  have hY := hc.2.2.2.2
  have hG := hQ.2
  have b4 := hG.1.2
  have e46 := hG.1.1
  have hcol : ∀ g : Int, 0 ≤ g → g < i 124 4 → i (21 + g.toNat) 8 = i 124 (128 + 14 * g) ∧ 0 ≤ i 124 (128 + 14 * g) ∧ i 124 (128 + 14 * g) ≤ 1 := fun g g0 g1 => by
    have h := hG.2.2.2.1 g g0 g1 8 (by omega) (by omega)
    rw [show 120 + 14 * g + 8 = 128 + 14 * g by omega] at h
    exact ⟨h.1, h.2.1, h.2.2.2.2.1 (by omega)⟩
  show ∃ (v : Int) (i1 l1 i2 l2 : MI), px_C (d + 33 + 6 + 1) 13 [vR 3, vI a, vI b] _ = _ ∧ px_C (d + 33 + 6 + 1) 199 [vR 123, vI a, vI b] _ = _ ∧ _
  by_cases hb : 0 ≤ b ∧ b < i 124 4
  · have hgs : px_gs (21 + b.toNat) := px_gs_mk21 (by omega)
    have hcb := hcol b hb.1 hb.2
    have hm : ∀ j m : MI, j 124 = i 124 → ∀ x, px_X (d + 33 + 6 + 1) 199 (4, [vR 123, vI a, vI b], [vI x]) (px_sh L, j, m, r, t) = if x = 0 then some (some (vI (-2)), (px_sh L, j, m, r, t)) else px_X (d + 33 + 6 + 1) 199 (22, [vR 123, vI a, vI b], [vI (i 124 (128 + 14 * b))]) (px_sh L, j, m, r, t) := fun j m hj x => by
      rw [b199_4 hr]
      by_cases hx : x = 0
      · rw [if_pos hx, if_pos hx]
      · rw [if_neg hx, if_neg hx, q144 hr _ _ _ _ (by rw [hj]; omega), hj, Option.bind_some, px_psh_some, b199_12 hr, px_bi_T hb, if_neg (by omega), q146 hr _ _ _ _ _ (by omega) (by omega), hj, show 120 + 14 * b + 8 = 128 + 14 * b by omega, Option.bind_some, px_psh_some]
    by_cases ha : 0 ≤ a ∧ a ≤ 1439
    · by_cases hh : i 124 (128 + 14 * b) = 0
      · refine ⟨-2, i, l, i, l, ?_, ?_, hc', rfl, rfl⟩
        · rw [e13, b13_0 hr, q52R hr _ _ _ _ (by omega), Option.bind_some, px_psh_some, b13_8_g hr _ _ _ _ _ hgs, q31 hr, Option.bind_some, px_psh_some, b13_13_i3g hr _ _ _ _ _ hgs, px_bi_T ha, if_neg (by omega), hcb.1, if_pos hh]
        · rw [e199, b199_0 hr, q145 hr, Option.bind_some, px_psh_some, hm i l rfl, px_bi_T ha, if_neg (by omega), b199_22 hr, if_pos hh]
      · obtain ⟨i1, r1, c1, s1, T1⟩ := q121 (L := L) (t := t) hr (d + 33) i l a hQ (by omega) (by have := hY.2.2.2.1; omega) hY.2.2.2.2
        have f124 : i1 124 = i 124 := c1 124 (by decide)
        have hset := ty_hset_b (i := i) b4.2
        have hs57 := q57 (L := L) (t := t) hr (d + 33 + 5) i1 l (T1.1.2.1.1) (T1.1.2.1.2) (fun g g0 g1 => by
          rw [f124] at g1 ⊢
          rw [c1 (21 + g.toNat) (by simp only [List.mem_cons, List.not_mem_nil, or_false]; omega)]
          exact (hcol g g0 g1).1)
        rw [ty_hset_ch f124] at hs57
        obtain ⟨i2, r2, c2, T2, p2⟩ := q122 (L := L) (t := t) hr (d + 33 + 1) i1 l a (ty_hset i) T1 hset
        have c12 : ty_ch [70, 71, 72, 103, 104, 105, 107, 108] i i2 := ty_ch_tr c1 c2 rfl rfl
        have g124 : i2 124 = i 124 := c12 124 (by decide)
        have hs198 := q198 (L := L) (t := t) hr (d + 33 + 5) i2 l (by rw [g124]; exact b4) (fun g g0 g1 => by
          rw [g124] at g1 ⊢
          exact (hcol g g0 g1).2)
        rw [ty_hset_ch g124] at hs198
        obtain ⟨i3, l3, r3, c3, c3l, p3⟩ := q197 (L := L) (t := t) hr (d + 33 + 1) i2 l a (ty_hset i) T2.1 (by omega) hset
        have c13 : ty_ch [70, 71, 72, 103, 104, 105, 107, 108, 140, 142, 143, 144] i i3 := ty_ch_tr c12 c3 rfl rfl
        have Q3 : ty_Q i3 := ty_Q_ch T2.1 c3 rfl
        have es : i3 103 7 = i 103 7 + 1 := by rw [c3 103 (by decide), c2 103 (by decide), s1]
        have epl : ty_place i1 a (ty_hset i) = ty_place i2 a (ty_hset i) := (ty_place_ch T1.1.1.1 c2 rfl).symm
        have hbit := (ty_hset_bit (i := i) hb.1).mpr ⟨hb.2, hh⟩
        refine ⟨ty_place i1 a (ty_hset i) b, i2, l, i3, l3, ?_, ?_, ty_CR_same hc (ty_same_ch c13 rfl) (c3l 19 (by decide)) (c3l 46 (by decide)) Q3.1.2.1 ?_ (fun x x0 x1 => ?_), c12 0 (by decide), c13 0 (by decide)⟩
        · rw [e13, b13_0 hr, q52R hr _ _ _ _ (by omega), Option.bind_some, px_psh_some, b13_8_g hr _ _ _ _ _ hgs, q31 hr, Option.bind_some, px_psh_some, b13_13_i3g hr _ _ _ _ _ hgs, px_bi_T ha, if_neg (by omega), hcb.1, if_neg hh, r1, Option.bind_some, px_psh_none, b13_38 hr _ _ _ _ _ (px_nl_R _), hs57, Option.bind_some, px_psh_some, b13_49 hr _ _ _ _ _ (px_nl_R _), r2, Option.bind_some, px_psh_none, b13_52 hr _ _ _ _ _ (px_nl_R _), q123 hr _ _ _ _ (by omega), Option.bind_some, px_psh_some, b13_60 hr _ _ _ _ _ (px_nl_R _), p2 b hb.1 (by omega)]
        · rw [e199, b199_0 hr, q145 hr, Option.bind_some, px_psh_some, hm i2 l g124, px_bi_T ha, if_neg (by omega), b199_22 hr, if_neg hh, hs198, Option.bind_some, px_psh_some, b199_33 hr, r3, Option.bind_some, px_psh_none, b199_37 hr _ _ _ _ _ (by omega), p3 b hb.1 (by omega), g124, if_pos ⟨hb.2, hbit⟩, epl]
        · rw [es]
          have := hY.2.2.2.1
          omega
        · rw [c3 103 (by decide), c3 108 (by decide)]
          exact T2.2.2.2.2.1 x x0 x1
    · refine ⟨-2, i, l, i, l, ?_, ?_, hc', rfl, rfl⟩
      · rw [e13, b13_0 hr, q52R hr _ _ _ _ (by omega), Option.bind_some, px_psh_some, b13_8_g hr _ _ _ _ _ hgs, q31 hr, Option.bind_some, px_psh_some, b13_13_i3g hr _ _ _ _ _ hgs, px_bi_F ha, if_pos rfl]
      · rw [e199, b199_0 hr, q145 hr, Option.bind_some, px_psh_some, hm i l rfl, px_bi_F ha, if_pos rfl]
  · refine ⟨-2, i, l, i, l, ?_, ?_, hc', rfl, rfl⟩
    · rw [e13, b13_0 hr, q52N hr _ _ _ _ (by omega), Option.bind_some, px_psh_some, b13_8_N hr, q31 hr, Option.bind_some, px_psh_some, b13_13_i3N hr]
      split <;> rfl
    · rw [e199, b199_0 hr, q145 hr, Option.bind_some, px_psh_some, b199_4 hr]
      split
      · rfl
      · rw [q144 hr _ _ _ _ (by omega), Option.bind_some, px_psh_some, b199_12 hr, px_bi_F hb, if_pos rfl]
