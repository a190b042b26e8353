/-! A pilot: the class's lead (82) and thousandthsSafe (80). -/
section TQB
variable {L t : Nat} {r : MR}
theorem tq_82_s (hr : px_hr r) (d : Nat) (i l : MI) (A : Int → Int) (ok : Int → Bool) (hD : ty_D i l) (c dr F s p x5 : Int) (hc : 0 ≤ c ∧ c < i 123 2) (hd : 0 ≤ dr ∧ dr ≤ 3) (hs : s = 0 ∨ s = 1 ∨ s = 2 ∨ s = 3) (hF : ty_set (i 123 2) F ok) (hx5 : x5 = tq_aim (i 123 0) (i 123 2) A c) (ha : x5 ≠ -1) (hp : l 114 c = p) (hp0 : 0 ≤ p)
    (hb : ∀ x, 0 ≤ x → x < i 123 2 → 0 ≤ l 115 x ∧ l 115 x + tq_k (i 123 0) (i 123 2) A dr ok p c (ty_sd s) x ≤ 4000000000000000000) (v7 v8 : PV) {v10 : PV} (hn10 : px_nl v10) :
    ∃ (l1 : MI) (w7 w8 w10 : PV), px_nl w10 ∧ px_X (d + 1 + 1) 82 (75, [vR 110, vI c, vI dr, vL F, vJ, vI x5, vI s, v7, v8, vJ, v10], []) (px_sh L, i, l, r, t) = px_X (d + 1 + 1) 82 (75, [vR 110, vI c, vI dr, vL F, vJ, vI x5, vI (s + 1), w7, w8, vJ, w10], []) (px_sh L, i, l1, r, t) ∧ ty_ch [115] l l1 ∧ ∀ x, 0 ≤ x → x < i 123 2 → l1 115 x = l 115 x + tq_k (i 123 0) (i 123 2) A dr ok p c (ty_sd s) x := by
  have hdim := ty_D_2 hD
  have hbb := ty_bes_b (W := i 123 0) (H := i 123 1) (c := c) (s := ty_sd s) hD.1 (by rw [← hD.2.2.1]; exact hc)
  rw [← hD.2.2.1] at hbb
  have ws : px_w32 (s + 1) = s + 1 := ty_w (by omega)
  have hpt : tq_pt (i 123 0) (i 123 2) A dr c (ty_sd s) = if ty_bes (i 123 0) (i 123 2) c (ty_sd s) = x5 then 12 - 3 * dr else dr := by rw [hx5]; rfl
  have hcm : tq_cm (i 123 0) (i 123 2) c (ty_sd s) = if ty_bes (i 123 0) (i 123 2) c (ty_sd s) = -1 then c else ty_bes (i 123 0) (i 123 2) c (ty_sd s) := rfl
  have hk : ∀ x, tq_k (i 123 0) (i 123 2) A dr ok p c (ty_sd s) x = if ok (tq_cm (i 123 0) (i 123 2) c (ty_sd s)) = true ∧ x = tq_cm (i 123 0) (i 123 2) c (ty_sd s) then tq_pt (i 123 0) (i 123 2) A dr c (ty_sd s) * p else 0 := fun x => rfl
  have hptb := tq_pt_b (W := i 123 0) (C := i 123 2) (A := A) (c := c) (s := ty_sd s) hd
  obtain ⟨pt, hpte⟩ : ∃ pt, pt = tq_pt (i 123 0) (i 123 2) A dr c (ty_sd s) := ⟨_, rfl⟩
  obtain ⟨cm, hcme⟩ : ∃ cm, cm = tq_cm (i 123 0) (i 123 2) c (ty_sd s) := ⟨_, rfl⟩
  rw [← hpte] at hpt hptb hk
  rw [← hcme] at hcm hk
  obtain ⟨b, hbe⟩ : ∃ b, b = ty_bes (i 123 0) (i 123 2) c (ty_sd s) := ⟨_, rfl⟩
  have h41 := q41 (L := L) (r := r) (t := t) hr d i l hD c s hc hs
  rw [← hbe] at hpt hcm hbb h41
  have e121 : px_X (d + 1 + 1) 82 (75, [vR 110, vI c, vI dr, vL F, vJ, vI x5, vI s, v7, v8, vJ, v10], []) (px_sh L, i, l, r, t) = px_X (d + 1 + 1) 82 (121, [vR 110, vI c, vI dr, vL F, vJ, vI x5, vI s, vI b, v8, vJ, v10], [vL pt]) (px_sh L, i, l, r, t) := by
    rw [b82_75x hr, if_neg (by omega), h41, Option.bind_some, px_psh_some, b82_91x hr]
    by_cases h1 : b = -1
    · rw [if_pos h1, b82_119x hr, hpt, if_neg (by omega)]
    · rw [if_neg h1]
      by_cases h2 : b = x5
      · rw [if_pos h2, hpt, if_pos h2, ty_w6 (x := 3 * dr) (by omega), ty_w6 (x := 12 - 3 * dr) (by omega)]
      · rw [if_neg h2, b82_119x hr, hpt, if_neg h2]
  have e135 : px_X (d + 1 + 1) 82 (75, [vR 110, vI c, vI dr, vL F, vJ, vI x5, vI s, v7, v8, vJ, v10], []) (px_sh L, i, l, r, t) = px_X (d + 1 + 1) 82 (135, [vR 110, vI c, vI dr, vL F, vJ, vI x5, vI s, vI b, vL pt, vJ, v10], [vI cm]) (px_sh L, i, l, r, t) := by
    rw [e121, b82_121x hr]
    by_cases h1 : b = -1
    · rw [if_pos h1, hcm, if_pos h1]
    · rw [if_neg h1, hcm, if_neg h1]
  have hcmb : 0 ≤ cm ∧ cm < i 123 2 := by
    rw [hcm]
    split <;> omega
  have hbit := tq_bit hF hdim.2 hcmb
  have h135 := b82_135 (L := L) (t := t) hr (d + 1 + 1) i l c dr F x5 s b pt hn10 cm (fun _ _ _ => by omega) (fun _ _ _ => by omega)
  rw [if_neg (by omega), if_neg (by omega), ws, hp] at h135
  by_cases h : ok cm = true
  · rw [if_pos (hbit.mpr h)] at h135
    have hbx := hb cm hcmb.1 hcmb.2
    rw [hk, if_pos ⟨h, rfl⟩] at hbx
    have hv : 0 ≤ pt * p := Int.mul_nonneg hptb.1 hp0
    rw [ty_w6 (x := pt * p) (by omega), ty_w6 (x := l 115 cm + pt * p) (by omega)] at h135
    refine ⟨_, _, _, _, px_nl_I _, e135.trans h135, ty_ch_up (by decide), fun x x0 x1 => ?_⟩
    rw [hk]
    by_cases e : x = cm
    · rw [e, ty_up_eq, if_pos ⟨h, rfl⟩]
    · rw [ty_up_j e, if_neg (fun q => e q.2), Int.add_zero]
  · rw [if_neg (fun q => h (hbit.mp q))] at h135
    refine ⟨l, _, _, _, px_nl_I _, e135.trans h135, ty_ch_rf, fun x x0 x1 => ?_⟩
    rw [hk, if_neg (fun q => h q.1), Int.add_zero]
/-- lead -/
theorem tq_82 (hr : px_hr r) (d : Nat) (i l : MI) (A : Int → Int) (ok sh : Int → Bool) (hD : ty_D i l) (c dr F : Int) (p : Int → Int) (hc : 0 ≤ c ∧ c < i 123 2) (hd : 0 ≤ dr ∧ dr ≤ 3) (hF : ty_set (i 123 2) F ok) (hs : ty_set (i 123 2) (l 19 7) sh) (hA : ∀ e, 0 ≤ e → e < i 123 2 → i 113 e = A e) (ha : sh c = false → tq_aim (i 123 0) (i 123 2) A c ≠ -1) (hp : l 114 c = p c) (hp0 : 0 ≤ p c)
    (hb : ∀ x, 0 ≤ x → x < i 123 2 → 0 ≤ l 115 x ∧ l 115 x + tq_K (i 123 0) (i 123 2) sh A dr ok p c x ≤ 4000000000000000000) :
    ∃ l1 : MI, px_C (d + 1 + 1 + 1) 82 [vR 110, vI c, vI dr, vL F] (px_sh L, i, l, r, t) = some (none, (px_sh L, i, l1, r, t)) ∧ ty_ch [115] l l1 ∧ ∀ x, 0 ≤ x → x < i 123 2 → l1 115 x = l 115 x + tq_K (i 123 0) (i 123 2) sh A dr ok p c x := by
  have hdim := ty_D_2 hD
  have h0 := b82_0 (L := L) (t := t) hr (d + 1 + 1) i l c dr F (fun _ _ _ => by omega)
  rw [if_neg (by omega), if_neg (by omega), if_neg (by omega), hp] at h0
  have hb39 : px_C (d + 1 + 1) 39 [vR 19, vI c] (px_sh L, i, l, r, t) = some (some (vI (ty_b (sh c))), (px_sh L, i, l, r, t)) := q39 hr (d + 1) i l (i 123 2) sh hD.2.2.2.2.2.1 hdim.2 hs c hc
  by_cases hz : p c = 0
  · refine ⟨l, ?_, ty_ch_rf, fun x x0 x1 => ?_⟩
    · rw [e82, h0, if_pos (ty_cmp0.mpr hz)]
    · have e : tq_K (i 123 0) (i 123 2) sh A dr ok p c x = 0 := by
        unfold tq_K tq_cn tq_k
        rw [hz, Int.mul_zero, Int.mul_zero, Int.mul_zero, Int.mul_zero, Int.mul_zero]
        repeat' split
        all_goals rfl
      rw [e, Int.add_zero]
  · rw [if_neg (fun q => hz (ty_cmp0.mp q)), hb39, Option.bind_some, px_psh_some] at h0
    have h42 := b82_42 (L := L) (t := t) hr (d + 1 + 1) i l c dr F (ty_b (sh c)) (fun _ => by omega)
    rw [hp] at h42
    by_cases hsc : sh c = true
    · have hK : ∀ x, tq_K (i 123 0) (i 123 2) sh A dr ok p c x = if x = c then 12 * p c else 0 := fun x => if_pos hsc
      have hbc := hb c hc.1 hc.2
      rw [hK, if_pos rfl] at hbc
      rw [if_neg (by rw [hsc]; decide), ty_w6 (x := 12 * p c) (by omega), ty_w6 (x := l 115 c + 12 * p c) (by omega)] at h42
      refine ⟨_, by rw [e82, h0, h42], ty_ch_up (by decide), fun x x0 x1 => ?_⟩
      rw [hK]
      by_cases e : x = c
      · rw [e, ty_up_eq, if_pos rfl]
      · rw [ty_up_j e, if_neg e, Int.add_zero]
    · have hsf : sh c = false := by
        cases hb : sh c with
        | false => rfl
        | true => exact absurd hb hsc
      have hK : ∀ x, tq_K (i 123 0) (i 123 2) sh A dr ok p c x = tq_k (i 123 0) (i 123 2) A dr ok (p c) c 0 x + tq_k (i 123 0) (i 123 2) A dr ok (p c) c 3 x + tq_k (i 123 0) (i 123 2) A dr ok (p c) c 1 x + tq_k (i 123 0) (i 123 2) A dr ok (p c) c 2 x := fun x => if_neg hsc
      have hk0 : ∀ s x, 0 ≤ tq_k (i 123 0) (i 123 2) A dr ok (p c) c s x := fun s x => tq_k_b hd hp0
      rw [if_pos (by rw [hsf]; rfl), tq_83 hr d i l A hD c hc hA, Option.bind_some, px_psh_some, b82_70 hr] at h42
      have ha' := ha hsf
      obtain ⟨l1, a7, a8, a10, n1, r1, c1, p1⟩ := tq_82_s (L := L) (r := r) (t := t) hr (d + 1) i l A ok hD c dr F 0 (p c) _ hc hd (by omega) hF rfl ha' hp hp0 (fun x x0 x1 => by
        have h := hb x x0 x1
        rw [hK] at h
        have h0 := hk0 0 x
        have h1 := hk0 1 x
        have h2 := hk0 2 x
        have h3 := hk0 3 x
        rw [show ty_sd 0 = 0 from rfl]
        omega) vJ vJ px_nl_J
      obtain ⟨l2, b7, b8, b10, n2, r2, c2, p2⟩ := tq_82_s (L := L) (r := r) (t := t) hr (d + 1) i l1 A ok (tq_Dl hD c1 rfl) c dr F 1 (p c) _ hc hd (by omega) hF rfl ha' (by rw [c1 114 (by decide)]; exact hp) hp0 (fun x x0 x1 => by
        have h := hb x x0 x1
        rw [hK] at h
        have h0 := hk0 0 x
        have h1 := hk0 1 x
        have h2 := hk0 2 x
        have h3 := hk0 3 x
        rw [p1 x x0 x1, show ty_sd 0 = 0 from rfl, show ty_sd 1 = 3 from rfl]
        omega) a7 a8 n1
      obtain ⟨l3, d7, d8, d10, n3, r3, c3, p3⟩ := tq_82_s (L := L) (r := r) (t := t) hr (d + 1) i l2 A ok (tq_Dl (tq_Dl hD c1 rfl) c2 rfl) c dr F 2 (p c) _ hc hd (by omega) hF rfl ha' (by rw [c2 114 (by decide), c1 114 (by decide)]; exact hp) hp0 (fun x x0 x1 => by
        have h := hb x x0 x1
        rw [hK] at h
        have h0 := hk0 0 x
        have h1 := hk0 1 x
        have h2 := hk0 2 x
        have h3 := hk0 3 x
        rw [p2 x x0 x1, p1 x x0 x1, show ty_sd 0 = 0 from rfl, show ty_sd 1 = 3 from rfl, show ty_sd 2 = 1 from rfl]
        omega) b7 b8 n2
      obtain ⟨l4, f7, f8, f10, n4, r4, c4, p4⟩ := tq_82_s (L := L) (r := r) (t := t) hr (d + 1) i l3 A ok (tq_Dl (tq_Dl (tq_Dl hD c1 rfl) c2 rfl) c3 rfl) c dr F 3 (p c) _ hc hd (by omega) hF rfl ha' (by rw [c3 114 (by decide), c2 114 (by decide), c1 114 (by decide)]; exact hp) hp0 (fun x x0 x1 => by
        have h := hb x x0 x1
        rw [hK] at h
        have h0 := hk0 0 x
        have h1 := hk0 1 x
        have h2 := hk0 2 x
        have h3 := hk0 3 x
        rw [p3 x x0 x1, p2 x x0 x1, p1 x x0 x1, show ty_sd 0 = 0 from rfl, show ty_sd 1 = 3 from rfl, show ty_sd 2 = 1 from rfl, show ty_sd 3 = 2 from rfl]
        omega) d7 d8 n3
      refine ⟨l4, ?_, ty_ch_tr (ty_ch_tr (ty_ch_tr c1 c2 (S'' := [115]) rfl rfl) c3 (S'' := [115]) rfl rfl) c4 rfl rfl, fun x x0 x1 => ?_⟩
      · rw [e82, h0, h42, r1, show (0 : Int) + 1 = 1 from rfl, r2, show (1 : Int) + 1 = 2 from rfl, r3, show (2 : Int) + 1 = 3 from rfl, r4, show (3 : Int) + 1 = 4 from rfl, b82_75x hr, if_pos (by decide)]
      · rw [p4 x x0 x1, p3 x x0 x1, p2 x x0 x1, p1 x x0 x1, hK, show ty_sd 0 = 0 from rfl, show ty_sd 1 = 3 from rfl, show ty_sd 2 = 1 from rfl, show ty_sd 3 = 2 from rfl]
        omega
theorem tq_CS_c {i i' l l' : MI} {lev hgt : Int → Int} {sh : Int → Bool} {w p a : Int} (h : ty_CS i l lev hgt sh w p a) (hc : ty_ch [70, 71, 72, 113] i i') (hV : ty_V i') (hl : ty_ch [112, 114, 115] l l') : ty_CS i' l' lev hgt sh w p a := by
  obtain ⟨hD, hV0, hlev, hp, ha, hs, hf, hb⟩ := h
  have e123 := hc 123 (by decide)
  have e19 := hc 19 (by decide)
  have l19 := hl 19 (by decide)
  refine ⟨tq_Dl (tq_D hD hc rfl) hl rfl, hV, fun x x0 x1 => by rw [ty_lev_ch hV0.1 hc rfl]; exact hlev x x0 x1, by rw [hc 110 (by decide)]; exact hp, by rw [e19, e123]; exact ha, by rw [e123, l19]; exact hs, fun v v0 v1 => by rw [e123, hl 111 (by decide)]; exact hf v v0 v1, by rw [e123]; exact hb⟩
/-- the cells of a step -/
theorem tq_80_c (hr : px_hr r) (d : Nat) (i : MI) (A : Int → Int) (ok sh : Int → Bool) (x1 dr x3 x4 x5 x7 F : Int) (p : Int → Int) (hd : 0 ≤ dr ∧ dr ≤ 3) (hF : ty_set (i 123 2) F ok) (hA : ∀ e, 0 ≤ e → e < i 123 2 → i 113 e = A e) (ha : ∀ c, 0 ≤ c → c < i 123 2 → sh c = false → tq_aim (i 123 0) (i 123 2) A c ≠ -1) (hp0 : ∀ x, 0 ≤ p x)
    (hB : ∀ x, 0 ≤ x → x < i 123 2 → tq_G (tq_K (i 123 0) (i 123 2) sh A dr ok p) (i 123 2).toNat x ≤ 4000000000000000000) : ∀ (n c : Nat) (l : MI), ty_D i l → ty_set (i 123 2) (l 19 7) sh → (∀ x, 0 ≤ x → x < i 123 2 → l 114 x = p x) → (c : Int) + n = i 123 2 → (∀ x, 0 ≤ x → x < i 123 2 → l 115 x = tq_G (tq_K (i 123 0) (i 123 2) sh A dr ok p) c x) →
    ∃ l1 : MI, px_X (d + 1 + 1 + 1 + 1) 80 (96, [vR 110, vI x1, vI dr, vI x3, vI x4, vL x5, vJ, vI x7, vL F, vJ, vI (c : Int)], []) (px_sh L, i, l, r, t) = px_X (d + 1 + 1 + 1 + 1) 80 (133, [vR 110, vI x1, vI dr, vI x3, vI x4, vL x5, vJ, vI x7, vL F, vJ, vI (i 123 2)], []) (px_sh L, i, l1, r, t) ∧ ty_ch [115] l l1 ∧ ∀ x, 0 ≤ x → x < i 123 2 → l1 115 x = tq_G (tq_K (i 123 0) (i 123 2) sh A dr ok p) (i 123 2).toNat x
  | 0, c, l, hD, hs, hp, hn, hq => by
    have e19 := hD.2.2.2.2.2.1
    refine ⟨l, ?_, ty_ch_rf, fun x x0 x1 => ?_⟩
    · rw [b80_96 hr, if_pos (by omega), show (c : Int) = i 123 2 by omega]
    · rw [hq x x0 x1, show c = (i 123 2).toNat by omega]
  | n + 1, c, l, hD, hs, hp, hn, hq => by
    have hdim := ty_D_2 hD
    have e19 := hD.2.2.2.2.2.1
    have hK0 : ∀ c x, 0 ≤ tq_K (i 123 0) (i 123 2) sh A dr ok p c x := fun c x => tq_K_b hd hp0 c x
    obtain ⟨l1, r1, c1, p1⟩ := tq_82 (L := L) (r := r) (t := t) hr d i l A ok sh hD (c : Int) dr F p ⟨by omega, by omega⟩ hd hF hs hA (ha c (by omega) (by omega)) (hp c (by omega) (by omega)) (hp0 c) (fun x x0 x1 => by
      have h1 := tq_G_b hK0 c x
      have h2 : tq_G (tq_K (i 123 0) (i 123 2) sh A dr ok p) (c + 1) x = tq_G (tq_K (i 123 0) (i 123 2) sh A dr ok p) c x + tq_K (i 123 0) (i 123 2) sh A dr ok p c x := rfl
      have h3 := tq_G_le hK0 (n := c + 1) (m := (i 123 2).toNat) (x := x) (by omega)
      have h4 := hB x x0 x1
      rw [hq x x0 x1]
      omega)
    obtain ⟨l2, r2, c2, p2⟩ := tq_80_c hr d i A ok sh x1 dr x3 x4 x5 x7 F p hd hF hA ha hp0 hB n (c + 1) l1 (tq_Dl hD c1 rfl) (by rw [c1 19 (by decide)]; exact hs) (fun x x0 x1 => by rw [c1 114 (by decide)]; exact hp x x0 x1) (by omega) (fun x x0 x1 => by rw [p1 x x0 x1, hq x x0 x1]; rfl)
    refine ⟨l2, ?_, ty_ch_tr c1 c2 rfl rfl, p2⟩
    rw [b80_96 hr, if_neg (by omega), if_neg (by omega), r1, Option.bind_some, px_psh_none, b80_127 hr, tg_wc (c := c) (by omega), r2]
end TQB
