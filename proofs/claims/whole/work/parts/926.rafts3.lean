/-! rafts: the reference, the call. -/
section TYRR
variable {L t : Nat} {r : MR}
theorem ty_226_b (hr : px_hr r) (d : Nat) (i0 : MI) (hL0 : ty_LW i0) : ∀ (n : Nat) (i l : MI) (x : Int), ty_ch [140, 156] i0 i → 1 ≤ x → x + n = 21 → (∀ y, 1 ≤ y → y < x → i 156 y = ty_br i0 y) →
    ∃ i1 l1 : MI, px_X (d + 3 + 1) 226 (2, [vR 123, vI x, vJ, vJ], []) (px_sh L, i, l, r, t) = px_X (d + 3 + 1) 226 (2, [vR 123, vI 21, vJ, vJ], []) (px_sh L, i1, l1, r, t) ∧ ty_ch [140, 156] i0 i1 ∧ ty_ch [141] l l1 ∧ ∀ y, 1 ≤ y → y < 21 → i1 156 y = ty_br i0 y
  | 0, i, l, x, hc, hx, hn, hb => by
    have e : x = 21 := by omega
    rw [e] at hb ⊢
    exact ⟨i, l, rfl, hc, ty_ch_rf, hb⟩
  | n + 1, i, l, x, hc, hx, hn, hb => by
    have w : px_w32 (x + 1) = x + 1 := ty_w (by omega)
    have w2 : px_w32 (100 * x) = 100 * x := ty_w (by omega)
    obtain ⟨j, hj⟩ : ∃ j : MI, j = px_up i 140 14 x := ⟨_, rfl⟩
    have cj0 : ty_ch [140] i j := by
      rw [hj]
      exact ty_ch_up (by decide)
    have cj : ty_ch [140, 156] i0 j := ty_ch_tr hc cj0 rfl rfl
    have hLj : ty_LW j := ty_LW_ch hL0 cj rfl
    have h14 : ∀ v, 0 ≤ v → v < 15 → ty_may 3 v → j 140 v = x := fun v v0 v1 hv => by
      rw [hv.2.2.2.1 rfl, hj, ty_up_eq]
    have es : ty_says j 3 99999 (100 * x) (j 140) = ty_br i0 x := by
      unfold ty_br
      rw [← ty_says_ch hL0 cj rfl]
      exact ty_says_env hLj h14
    rw [ty_says_eq] at es
    have rest : ∀ (v : Int) (l1 : MI), v = ty_br i0 x → ty_ch [141] l l1 → ∃ i1 l2 : MI, px_X (d + 3 + 1) 226 (2, [vR 123, vI (x + 1), vJ, vJ], []) (px_sh L, px_up j 156 x v, l1, r, t) = px_X (d + 3 + 1) 226 (2, [vR 123, vI 21, vJ, vJ], []) (px_sh L, i1, l2, r, t) ∧ ty_ch [140, 156] i0 i1 ∧ ty_ch [141] l l2 ∧ ∀ y, 1 ≤ y → y < 21 → i1 156 y = ty_br i0 y := fun v l1 hv cl => by
      obtain ⟨i2, l2, r2, c2, cl2, h2⟩ := ty_226_b hr d i0 hL0 n (px_up j 156 x v) l1 (x + 1) (ty_ch_tr cj (ty_ch_up (S := [156]) (by decide)) rfl rfl) (by omega) (by omega) (fun y y0 y1 => by
        by_cases e : y = x
        · rw [e, ty_up_eq, hv]
        · rw [ty_up_j e, cj0 156 (by decide)]
          exact hb y y0 (by omega))
      exact ⟨i2, l2, r2, c2, ty_ch_tr cl cl2 rfl rfl, h2⟩
    rw [b226_2 hr, if_neg (by omega), ← hj, q187 hr _ _ _ _ hLj, Option.bind_some, px_psh_some, b226_26 hr _ _ _ _ _ _ (by intros; omega)]
    by_cases hf : ty_fnd j 3 = -1
    · rw [if_pos hf] at es
      rw [if_pos hf, if_pos rfl, w, w2]
      exact rest _ l es ty_ch_rf
    · rw [if_neg hf] at es
      obtain ⟨l1, r1, cl1⟩ := q188 (L := L) (r := r) (t := t) hr d j l 3 0 hLj (by omega) (fun v v0 v1 hv => by rw [h14 v v0 v1 hv]; omega)
      rw [if_neg hf] at r1
      rw [if_neg hf, if_neg (by omega), r1, Option.bind_some, px_psh_some, b226_35 hr, q190 hr _ _ _ _ _ (by omega), Option.bind_some, px_psh_some, b226_40 hr _ _ _ _ _ _ (by omega), w]
      exact rest _ l1 es cl1
theorem ty_226_h (hr : px_hr r) (d : Nat) (i l : MI) (s : Nat) (hs : s < 128) (h7 : i 124 7 ≤ 7) (hW : ∀ h, 0 ≤ h → h < i 124 7 → 1 ≤ i 124 (270 + h) ∧ i 124 (270 + h) ≤ 999) : ∀ (n : Nat) (k a : Int), 0 ≤ k → k + n = i 124 7 → 0 ≤ a ∧ a ≤ 999 * k →
    px_X d 226 (73, [vR 123, vI (s : Int), vI a, vI k], []) (px_sh L, i, l, r, t) = px_X d 226 (126, [vR 123, vI (s : Int), vI (ty_wt (fun h => i 124 (270 + h)) (s : Int) n k a), vI 20], []) (px_sh L, px_up i 157 (s : Int) 0, l, r, t)
  | 0, k, a, hk, hn, ha => by
    rw [b226_73 hr _ _ _ _ _ _ (by intros; omega) (by intros; omega), if_pos (by omega)]
    rfl
  | n + 1, k, a, hk, hn, ha => by
    have w : px_w32 (k + 1) = k + 1 := ty_w (by omega)
    have w1 : px_w32 (270 + k) = 270 + k := ty_w (by omega)
    have hw := hW k hk (by omega)
    have e : ty_wt (fun h => i 124 (270 + h)) (s : Int) (n + 1) k a = ty_wt (fun h => i 124 (270 + h)) (s : Int) n (k + 1) (a + if ty_bit (s : Int) k = true then i 124 (270 + k) else 0) := rfl
    have hb := b226_73 (L := L) (t := t) hr d i l (s : Int) a k
    rw [w1] at hb
    rw [hb (by intros; omega) (by intros; omega), if_neg (by omega), e]
    by_cases hb : ty_bit (s : Int) k = true
    · have w2 : px_w32 (a + i 124 (270 + k)) = a + i 124 (270 + k) := ty_w (by omega)
      rw [if_pos ((ty_bit_i (by omega) (by omega)).mpr hb), w, w2, if_pos hb]
      exact ty_226_h hr d i l s hs h7 hW n (k + 1) _ (by omega) (by omega) (by omega)
    · have w2 : px_w32 (a + 0) = a + 0 := ty_w (by omega)
      rw [if_neg (fun h => hb ((ty_bit_i (by omega) (by omega)).mp h)), w, w2, if_neg hb]
      exact ty_226_h hr d i l s hs h7 hW n (k + 1) _ (by omega) (by omega) (by omega)
theorem ty_226_d (hr : px_hr r) (d : Nat) (l : MI) (B : Int → Int) (w : Int) (s : Nat) (hs : s < 128) : ∀ (k m : Nat) (i : MI), k + m = 20 → (∀ y, 1 ≤ y → y < 21 → i 156 y = B y) → i 157 (s : Int) = ty_ld B w m ((k : Int) + 1) →
    ∃ i1 : MI, px_X d 226 (126, [vR 123, vI (s : Int), vI w, vI (k : Int)], []) (px_sh L, i, l, r, t) = px_X d 226 (56, [vR 123, vI ((s + 1 : Nat) : Int), vI w, vI 0], []) (px_sh L, i1, l, r, t) ∧ ty_ch [157] i i1 ∧ (∀ y : Int, y ≠ (s : Int) → i1 157 y = i 157 y) ∧ i1 157 (s : Int) = ty_ld B w 20 1
  | 0, m, i, hm, hB, hv => by
    have w1 : px_w32 ((s : Int) + 1) = ((s + 1 : Nat) : Int) := by rw [ty_w (by omega)]; omega
    have e : m = 20 := by omega
    rw [e, show ((0 : Nat) : Int) + 1 = 1 from rfl] at hv
    exact ⟨i, by rw [b226_126 hr _ _ _ _ _ _ (by intros; omega) (by intros; omega) (by intros; omega), if_pos (by omega), w1]; rfl, ty_ch_rf, fun _ _ => rfl, hv⟩
  | k + 1, m, i, hm, hB, hv => by
    have e0 : ((k + 1 : Nat) : Int) = (k : Int) + 1 := by omega
    have w1 : px_w32 (((k + 1 : Nat) : Int) + (-1)) = (k : Int) := by rw [ty_w (by omega)]; omega
    have hBk := hB ((k + 1 : Nat) : Int) (by omega) (by omega)
    have e1 : ty_ld B w (m + 1) ((k : Int) + 1) = if w ≤ B ((k : Int) + 1) then (k : Int) + 1 else ty_ld B w m ((k : Int) + 1 + 1) := rfl
    rw [e0] at hv hBk
    rw [b226_126 hr _ _ _ _ _ _ (by intros; omega) (by intros; omega) (by intros; omega), if_neg (by omega), w1, e0, hBk]
    have rest : ∀ v : Int, v = ty_ld B w (m + 1) ((k : Int) + 1) → ∃ i1 : MI, px_X d 226 (126, [vR 123, vI (s : Int), vI w, vI (k : Int)], []) (px_sh L, px_up i 157 (s : Int) v, l, r, t) = px_X d 226 (56, [vR 123, vI ((s + 1 : Nat) : Int), vI w, vI 0], []) (px_sh L, i1, l, r, t) ∧ ty_ch [157] i i1 ∧ (∀ y : Int, y ≠ (s : Int) → i1 157 y = i 157 y) ∧ i1 157 (s : Int) = ty_ld B w 20 1 := fun v h => by
      obtain ⟨i1, r1, c1, o1, v1⟩ := ty_226_d hr d l B w s hs k (m + 1) (px_up i 157 (s : Int) v) (by omega) (fun y y0 y1 => by rw [ty_up_k (by decide)]; exact hB y y0 y1) (by rw [ty_up_eq]; exact h)
      exact ⟨i1, r1, ty_ch_tr (ty_ch_up (S := [157]) (by decide)) c1 rfl rfl, fun y hy => by rw [o1 y hy, ty_up_j hy], v1⟩
    by_cases h : w ≤ B ((k : Int) + 1)
    · rw [if_neg (by omega)]
      exact rest _ (by rw [e1, if_pos h])
    · rw [if_pos (by omega)]
      exact rest _ (by rw [e1, if_neg h]; exact hv)
theorem ty_226_s (hr : px_hr r) (d : Nat) (l : MI) (B : Int → Int) (H N : Nat) (h7 : H ≤ 7) (hN : N = 2 ^ H) : ∀ (n : Nat) (i : MI) (k : Nat) (v2 v3 : PV), px_nl v2 → px_nl v3 → i 124 7 = (H : Int) → (∀ h, 0 ≤ h → h < i 124 7 → 1 ≤ i 124 (270 + h) ∧ i 124 (270 + h) ≤ 999) → (∀ y, 1 ≤ y → y < 21 → i 156 y = B y) → (∀ p : Nat, 1 ≤ p → p < k → i 157 (p : Int) = ty_rr B (fun h => i 124 (270 + h)) H p) → 1 ≤ k → k + n = N →
    ∃ i1 : MI, px_X d 226 (56, [vR 123, vI (k : Int), v2, v3], []) (px_sh L, i, l, r, t) = some (none, (px_sh L, i1, l, r, t)) ∧ ty_ch [157] i i1 ∧ ∀ p : Nat, 1 ≤ p → p < N → i1 157 (p : Int) = ty_rr B (fun h => i 124 (270 + h)) H p
  | 0, i, k, v2, v3, hn2, hn3, hH, hW, hB, hT, hk, hn => by
    have es : px_shl 1 (i 124 7) = (N : Int) := by rw [hH, ty_shl_1 H (by omega), hN]
    have e : k = N := by omega
    rw [e] at hT ⊢
    exact ⟨i, by rw [b226_56 hr _ _ _ _ hn2 hn3, es, if_pos (Int.le_refl _)], ty_ch_rf, hT⟩
  | n + 1, i, k, v2, v3, hn2, hn3, hH, hW, hB, hT, hk, hn => by
    have es : px_shl 1 (i 124 7) = (N : Int) := by rw [hH, ty_shl_1 H (by omega), hN]
    have hp1 : 2 ^ H ≤ 2 ^ 7 := Nat.pow_le_pow_right (by omega) h7
    have r1 := ty_226_h (L := L) (r := r) (t := t) hr d i l k (by omega) (by omega) hW H 0 0 (by omega) (by omega) (by omega)
    obtain ⟨i1, r2, c1, o1, v1⟩ := ty_226_d (L := L) (r := r) (t := t) hr d l B (ty_wt (fun h => i 124 (270 + h)) (k : Int) H 0 0) k (by omega) 20 0 (px_up i 157 (k : Int) 0) (by omega) (fun y y0 y1 => by rw [ty_up_k (by decide)]; exact hB y y0 y1) (by rw [ty_up_eq]; rfl)
    have cc : ty_ch [157] i i1 := ty_ch_tr (ty_ch_up (S := [157]) (by decide)) c1 rfl rfl
    have f124 : i1 124 = i 124 := cc 124 (by decide)
    have f156 : i1 156 = i 156 := cc 156 (by decide)
    obtain ⟨i2, r3, c2, h2⟩ := ty_226_s hr d l B H N h7 hN n i1 (k + 1) _ _ (px_nl_I _) (px_nl_I _) (by rw [f124]; exact hH) (by rw [f124]; exact hW) (by rw [f156]; exact hB) (fun p p0 p1 => by
      rw [f124]
      by_cases e : p = k
      · rw [e, v1]
        rfl
      · rw [o1 _ (by omega), ty_up_j (by omega)]
        exact hT p p0 (by omega)) (by omega) (by omega)
    rw [f124] at h2
    refine ⟨i2, ?_, ty_ch_tr cc c2 rfl rfl, h2⟩
    rw [b226_56 hr _ _ _ _ hn2 hn3, es, if_neg (by omega), r1]
    exact r2.trans r3
/-- laysRafts -/
theorem q226 (hr : px_hr r) (d : Nat) (i l : MI) (H : Nat) (h7 : H ≤ 7) (hL : ty_LW i) (hH : i 124 7 = (H : Int)) (hW : ∀ h, 0 ≤ h → h < i 124 7 → 1 ≤ i 124 (270 + h) ∧ i 124 (270 + h) ≤ 999) :
    ∃ i1 l1 : MI, px_C (d + 3 + 1) 226 [vR 123] (px_sh L, i, l, r, t) = some (none, (px_sh L, i1, l1, r, t)) ∧ ty_ch [140, 156, 157] i i1 ∧ ty_ch [141] l l1 ∧ ∀ p : Nat, 1 ≤ p → p < 2 ^ H → i1 157 (p : Int) = ty_rr (ty_br i) (fun h => i 124 (270 + h)) H p := by
  obtain ⟨i1, l1, r1, c1, cl1, h1⟩ := ty_226_b (L := L) (r := r) (t := t) hr d i hL 20 i l 1 ty_ch_rf (by omega) (by omega) (fun y y0 y1 => by omega)
  have f124 : i1 124 = i 124 := c1 124 (by decide)
  have hp0 : 0 < 2 ^ H := Nat.two_pow_pos H
  obtain ⟨i2, r2, c2, h2⟩ := ty_226_s (L := L) (r := r) (t := t) hr (d + 3 + 1) l1 (ty_br i) H (2 ^ H) h7 rfl (2 ^ H - 1) i1 1 vJ vJ px_nl_J px_nl_J (by rw [f124]; exact hH) (by rw [f124]; exact hW) h1 (fun p p0 p1 => by omega) (by omega) (by omega)
  rw [f124] at h2
  refine ⟨i2, l1, ?_, ty_ch_tr c1 c2 rfl rfl, cl1, h2⟩
  rw [e226, b226_0 hr, r1, b226_2 hr, if_pos (by omega)]
  exact r2
/-- the parts of a set, one by one -/
theorem ty_227_n (hr : px_hr r) (d : Nat) (l : MI) (R O : Nat → Int) (hR : ∀ p, 0 ≤ R p ∧ R p ≤ 20) (hO : ∀ p, O p = if R p = 0 then 1000 else R p) (x1 : Int) (s : Nat) (hs : s < 128) (G : Nat → Int) (hG : ∀ p, p < s → G p = -1 ∨ (0 ≤ G p ∧ G p ≤ 20 * (ty_sz p 7 : Int))) : ∀ (n : Nat) (i : MI) (k : Nat) (cur : Int) (v4 v5 : PV), px_nl v4 → px_nl v5 → (∀ p : Nat, 1 ≤ p → p ≤ s → i 157 (p : Int) = R p) → (∀ p : Nat, p < s → i 158 (p : Int) = G p) → i 158 (s : Int) = cur → (cur = -1 ∨ (0 ≤ cur ∧ cur ≤ 20 * (ty_sz s 7 : Int))) → 1 ≤ k → k + n = s + 1 →
    ∃ (i1 : MI) (v4' v5' : PV), px_X d 227 (39, [vR 123, vI x1, vI (s : Int), vI (k : Int), v4, v5], []) (px_sh L, i, l, r, t) = px_X d 227 (25, [vR 123, vI x1, vI ((s + 1 : Nat) : Int), vI ((s + 1 : Nat) : Int), v4', v5'], []) (px_sh L, i1, l, r, t) ∧ px_nl v4' ∧ px_nl v5' ∧ ty_ch [158] i i1 ∧ (∀ y : Int, y ≠ (s : Int) → i1 158 y = i 158 y) ∧
      (i1 158 (s : Int) = -1 ∨ (0 ≤ i1 158 (s : Int) ∧ i1 158 (s : Int) ≤ 20 * (ty_sz s 7 : Int))) ∧ ty_sp O (fun p => ty_sat (G p)) (fun _ => True) s k n (ty_sat cur) (ty_sat (i1 158 (s : Int)))
  | 0, i, k, cur, v4, v5, hn4, hn5, hr1, hg1, hcur, hcb, hk, hn => by
    have w1 : px_w32 ((s : Int) + 1) = ((s + 1 : Nat) : Int) := by rw [ty_w (by omega)]; omega
    have e : k = s + 1 := by omega
    refine ⟨i, v4, v5, ?_, hn4, hn5, ty_ch_rf, fun _ _ => rfl, by rw [hcur]; exact hcb, by rw [hcur]; exact ty_sp_0⟩
    rw [e, b227_39 hr _ _ _ _ _ _ hn4 hn5 (by intros; omega) (by intros; omega) (by intros; omega) (by intros; omega) (by intros; omega) (by intros; omega) (by intros; omega) (by intros; omega) (by intros; omega), if_pos (by omega), w1]
  | n + 1, i, k, cur, v4, v5, hn4, hn5, hr1, hg1, hcur, hcb, hk, hn => by
    have w : px_w32 ((k : Int) + 1) = ((k + 1 : Nat) : Int) := by rw [ty_w (by omega)]; omega
    have e1 : px_and (k : Int) (px_xor (s : Int) (-1)) = ((ty_sb k s : Nat) : Int) := ty_an_nat (by omega) (by omega)
    have e2 : px_and (s : Int) (px_xor (k : Int) (-1)) = ((ty_sb s k : Nat) : Int) := ty_an_nat (by omega) (by omega)
    have hle := ty_sb_le s k
    have hb := b227_39 (L := L) (t := t) hr d i l x1 (s : Int) (k : Int) hn4 hn5
    rw [e1, e2, w, hcur, hr1 k hk (by omega)] at hb
    have hb := hb (by intros; omega) (by intros; omega) (by intros; omega) (by intros; omega) (by intros; omega) (by intros; omega) (by intros; omega) (by intros; omega) (by intros; omega)
    rw [if_neg (by omega)] at hb
    have hsz := ty_sz_n s 7
    have hOk := hO k
    have hRk := hR k
    have go : ∀ (i' : MI) (cur' : Int) (v4' v5' : PV), px_nl v4' → px_nl v5' → ty_ch [158] i i' → (∀ y : Int, y ≠ (s : Int) → i' 158 y = i 158 y) → i' 158 (s : Int) = cur' → (cur' = -1 ∨ (0 ≤ cur' ∧ cur' ≤ 20 * (ty_sz s 7 : Int))) →
        (∀ v, ty_sp O (fun p => ty_sat (G p)) (fun _ => True) s (k + 1) n (ty_sat cur') v → ty_sp O (fun p => ty_sat (G p)) (fun _ => True) s k (n + 1) (ty_sat cur) v) →
        ∃ (i1 : MI) (v4'' v5'' : PV), px_X d 227 (39, [vR 123, vI x1, vI (s : Int), vI ((k + 1 : Nat) : Int), v4', v5'], []) (px_sh L, i', l, r, t) = px_X d 227 (25, [vR 123, vI x1, vI ((s + 1 : Nat) : Int), vI ((s + 1 : Nat) : Int), v4'', v5''], []) (px_sh L, i1, l, r, t) ∧ px_nl v4'' ∧ px_nl v5'' ∧ ty_ch [158] i i1 ∧ (∀ y : Int, y ≠ (s : Int) → i1 158 y = i 158 y) ∧
          (i1 158 (s : Int) = -1 ∨ (0 ≤ i1 158 (s : Int) ∧ i1 158 (s : Int) ≤ 20 * (ty_sz s 7 : Int))) ∧ ty_sp O (fun p => ty_sat (G p)) (fun _ => True) s k (n + 1) (ty_sat cur) (ty_sat (i1 158 (s : Int))) := fun i' cur' v4' v5' m4 m5 hc ho hc2 hc3 hsp => by
      have f157 : i' 157 = i 157 := hc 157 (by decide)
      obtain ⟨i1, a4, a5, r1, n4, n5, c1, o1, b1, s1⟩ := ty_227_n hr d l R O hR hO x1 s hs G hG n i' (k + 1) cur' v4' v5' m4 m5 (by rw [f157]; exact hr1) (fun p hp => by rw [ho _ (by omega)]; exact hg1 p hp) hc2 hc3 (by omega) (by omega)
      exact ⟨i1, a4, a5, r1, n4, n5, ty_ch_tr hc c1 rfl rfl, fun y hy => by rw [o1 y hy, ho y hy], b1, hsp _ s1⟩
    have cb1000 : ty_sat cur ≤ 1000 := by
      unfold ty_sat
      split <;> omega
    rw [hb]
    by_cases h1 : ty_sb k s = 0
    · rw [if_pos (by omega)]
      have hlt := ty_sb_lt hk h1
      have hgk := hg1 _ hlt
      have hGb := hG _ hlt
      have hszk := ty_sz_sb hk (by omega) h1
      rw [hgk]
      by_cases h2 : R k ≤ 0
      · rw [if_pos h2]
        refine go i cur _ _ (px_nl_I _) hn5 ty_ch_rf (fun _ _ => rfl) hcur hcb (fun v h => ty_sp_le ?_ h)
        rw [hOk, if_pos (by omega)]
        show ty_sat cur ≤ 1000 + ty_sat (G (ty_sb s k))
        have : 0 ≤ ty_sat (G (ty_sb s k)) := by
          unfold ty_sat
          split <;> omega
        omega
      · rw [if_neg h2]
        rw [if_neg (by omega)] at hOk
        by_cases h3 : G (ty_sb s k) = -1
        · rw [if_pos h3]
          refine go i cur _ _ (px_nl_I _) hn5 ty_ch_rf (fun _ _ => rfl) hcur hcb (fun v h => ty_sp_le ?_ h)
          show ty_sat cur ≤ O k + ty_sat (G (ty_sb s k))
          rw [hOk, h3]
          show ty_sat cur ≤ R k + 1000
          omega
        · rw [if_neg h3]
          have w2 : px_w32 (R k + G (ty_sb s k)) = R k + G (ty_sb s k) := ty_w (by omega)
          have eS : ty_sat (G (ty_sb s k)) = G (ty_sb s k) := if_neg h3
          have eN : ty_sat (R k + G (ty_sb s k)) = R k + G (ty_sb s k) := if_neg (by omega)
          rw [w2]
          have cu : ∀ v : Int, ty_ch [158] i (px_up i 158 (s : Int) v) := fun v => ty_ch_up (by decide)
          by_cases h4 : cur = -1
          · rw [if_pos h4]
            refine go _ (R k + G (ty_sb s k)) _ _ (px_nl_I _) (px_nl_I _) (cu _) (fun y hy => ty_up_j hy) ty_up_eq (Or.inr (by omega)) (fun v h => ty_sp_lt h1 trivial ?_ ?_)
            · show O k + ty_sat (G (ty_sb s k)) ≤ ty_sat cur
              rw [eS, hOk, h4]
              show R k + G (ty_sb s k) ≤ 1000
              omega
            · show ty_sp O (fun p => ty_sat (G p)) (fun _ => True) s (k + 1) n (O k + ty_sat (G (ty_sb s k))) v
              rw [eS, hOk, ← eN]
              exact h
          · rw [if_neg h4]
            have eC : ty_sat cur = cur := if_neg h4
            by_cases h5 : cur ≤ R k + G (ty_sb s k)
            · rw [if_pos h5]
              refine go _ cur _ _ (px_nl_I _) (px_nl_I _) (cu _) (fun y hy => ty_up_j hy) ty_up_eq hcb (fun v h => ty_sp_le ?_ h)
              show ty_sat cur ≤ O k + ty_sat (G (ty_sb s k))
              rw [eS, hOk, eC]
              exact h5
            · rw [if_neg h5]
              refine go _ (R k + G (ty_sb s k)) _ _ (px_nl_I _) (px_nl_I _) (cu _) (fun y hy => ty_up_j hy) ty_up_eq (Or.inr (by omega)) (fun v h => ty_sp_lt h1 trivial ?_ ?_)
              · show O k + ty_sat (G (ty_sb s k)) ≤ ty_sat cur
                rw [eS, hOk, eC]
                omega
              · show ty_sp O (fun p => ty_sat (G p)) (fun _ => True) s (k + 1) n (O k + ty_sat (G (ty_sb s k))) v
                rw [eS, hOk, ← eN]
                exact h
    · rw [if_neg (by omega)]
      exact go i cur _ v5 (px_nl_I _) hn5 ty_ch_rf (fun _ _ => rfl) hcur hcb (fun v h => ty_sp_no (fun h2 => h1 h2.1) h)
/-- the reference's table -/
def ty_FR (i : MI) (O : Nat → Int) (k : Nat) : Prop := i 158 0 = 0 ∧ (∀ s : Nat, s < k → i 158 (s : Int) = -1 ∨ (0 ≤ i 158 (s : Int) ∧ i 158 (s : Int) ≤ 20 * (ty_sz s 7 : Int))) ∧ ∀ s : Nat, 0 < s → s < k → ty_sp O (fun p => ty_sat (i 158 (p : Int))) (fun _ => True) s 1 s 1000 (ty_sat (i 158 (s : Int)))
theorem ty_227_s (hr : px_hr r) (d : Nat) (l : MI) (R O : Nat → Int) (hR : ∀ p, 0 ≤ R p ∧ R p ≤ 20) (hO : ∀ p, O p = if R p = 0 then 1000 else R p) (N : Nat) (hN : N ≤ 128) : ∀ (n : Nat) (i : MI) (k : Nat) (v3 v4 v5 : PV), px_nl v3 → px_nl v4 → px_nl v5 → (∀ p : Nat, 1 ≤ p → p < N → i 157 (p : Int) = R p) → ty_FR i O k → 1 ≤ k → k + n = N →
    ∃ i1 : MI, px_X d 227 (25, [vR 123, vI ((N - 1 : Nat) : Int), vI (k : Int), v3, v4, v5], []) (px_sh L, i, l, r, t) = some (some (vI (i1 158 ((N - 1 : Nat) : Int))), (px_sh L, i1, l, r, t)) ∧ ty_ch [158] i i1 ∧ ty_FR i1 O N
  | 0, i, k, v3, v4, v5, hn3, hn4, hn5, hr1, hT, hk, hn => by
    have e : k = N := by omega
    rw [e] at hT ⊢
    refine ⟨i, ?_, ty_ch_rf, hT⟩
    rw [b227_25 hr _ _ _ _ _ hn3 hn4 hn5 (by intros; omega) (by intros; omega), if_pos (by omega)]
  | n + 1, i, k, v3, v4, v5, hn3, hn4, hn5, hr1, hT, hk, hn => by
    obtain ⟨t1, t2, t3⟩ := hT
    obtain ⟨j, hj⟩ : ∃ j : MI, j = px_up i 158 (k : Int) (-1) := ⟨_, rfl⟩
    have cj : ty_ch [158] i j := by
      rw [hj]
      exact ty_ch_up (by decide)
    have jo : ∀ p : Nat, p < k → j 158 (p : Int) = i 158 (p : Int) := fun p hp => by rw [hj, ty_up_j (by omega)]
    have jk : j 158 (k : Int) = -1 := by rw [hj, ty_up_eq]
    obtain ⟨i1, a4, a5, r1, n4, n5, c1, o1, b1, s1⟩ := ty_227_n (L := L) (r := r) (t := t) hr d l R O hR hO ((N - 1 : Nat) : Int) k (by omega) (fun p => i 158 (p : Int)) (fun p hp => t2 p hp) k j 1 (-1) v4 v5 hn4 hn5 (fun p p0 p1 => by rw [cj 157 (by decide)]; exact hr1 p p0 (by omega)) jo jk (Or.inl rfl) (by omega) (by omega)
    have cc : ty_ch [158] i i1 := ty_ch_tr cj c1 rfl rfl
    have io : ∀ p : Nat, p < k → i1 158 (p : Int) = i 158 (p : Int) := fun p hp => by rw [o1 _ (by omega), jo p hp]
    obtain ⟨i2, r2, c2, h2⟩ := ty_227_s hr d l R O hR hO N hN n i1 (k + 1) _ a4 a5 (px_nl_I _) n4 n5 (by rw [cc 157 (by decide)]; exact hr1) ⟨by rw [show (0 : Int) = ((0 : Nat) : Int) from rfl, io 0 hk]; exact t1, fun s hs => by
      by_cases e : s = k
      · rw [e]
        exact b1
      · rw [io s (by omega)]
        exact t2 s (by omega), fun s s0 s2 => by
      by_cases e : s = k
      · rw [e]
        exact ty_sp_c (fun p p0 ps => by show ty_sat _ = ty_sat _; rw [io _ (ty_sb_lt p0 ps)]) s1
      · rw [io s (by omega)]
        exact ty_sp_c (fun p p0 ps => by show ty_sat _ = ty_sat _; rw [io _ (by have := ty_sb_lt p0 ps; omega)]) (t3 s s0 (by omega))⟩ (by omega) (by omega)
    refine ⟨i2, ?_, ty_ch_tr cc c2 rfl rfl, h2⟩
    rw [b227_25 hr _ _ _ _ _ hn3 hn4 hn5 (by intros; omega) (by intros; omega), if_neg (by omega), ← hj]
    exact r1.trans r2
end TYRR
/-- rafts -/
theorem ok_rafts : ty_ok ty_CR 23 227 [] := by
  intro L t r hr n d i l hn hc
  have hV := ty_V_CR hc
  have hY := hc.2.2.2.2
  have h0 := hc.2.1
  have hh := h0.2.2.2.2.2.1
  have b7 := h0.2.1.2.2.2.2.2.2.1
  obtain ⟨H, hH⟩ : ∃ H : Nat, i 124 7 = (H : Int) := ⟨(i 124 7).toNat, by omega⟩
  have e49 : i 4 9 = (H : Int) := by rw [← hH]; exact b7.1
  have hW : ∀ h, 0 ≤ h → h < i 124 7 → i 16 h = i 124 (270 + h) ∧ 1 ≤ i 124 (270 + h) ∧ i 124 (270 + h) ≤ 999 := fun h h0 h1 => hh h h0 h1
  have hp1 : 2 ^ H ≤ 2 ^ 7 := Nat.pow_le_pow_right (by omega) (by omega)
  have hp0 : 0 < 2 ^ H := Nat.two_pow_pos H
  show ∃ (v : Int) (i1 l1 i2 l2 : MI), px_C (d + 34 + 3 + 1 + 1 + 1) 23 [vR 3] _ = _ ∧ px_C (d + 35 + 3 + 1 + 1) 227 [vR 123] _ = _ ∧ _
  obtain ⟨i1, v, r1, c1, h1, hv⟩ := q117 (L := L) (r := r) (t := t) hr (d + 34) i l (fun h => i 124 (270 + h)) H hV.1 e49 (by omega) (by rw [e49, ← hH]; exact hW)
  have f124 : i1 124 = i 124 := c1 124 (by decide)
  have hL1 : ty_LW i1 := ty_LW_ch hV.1 c1 rfl
  obtain ⟨i2, l2, r2, c2, cl2, h2⟩ := q226 (L := L) (r := r) (t := t) hr (d + 35) i1 l H (by omega) hL1 (by rw [f124]; exact hH) (by rw [f124]; exact fun h h0 h1 => (hW h h0 h1).2)
  have eB : ty_br i1 = ty_br i := funext (fun x => ty_br_ch hV.1 c1 rfl)
  rw [eB, f124] at h2
  obtain ⟨R, hR⟩ : ∃ R : Nat → Int, R = ty_rr (ty_br i) (fun h => i 124 (270 + h)) H := ⟨_, rfl⟩
  obtain ⟨O, hO⟩ : ∃ O : Nat → Int, O = ty_ro (ty_br i) (fun h => i 124 (270 + h)) H := ⟨_, rfl⟩
  rw [← hO] at h1
  rw [← hR] at h2
  have hRb : ∀ p, 0 ≤ R p ∧ R p ≤ 20 := fun p => by rw [hR]; exact ty_rr_b _ _ _ _
  have hOb : ∀ p, 0 ≤ O p := fun p => by rw [hO]; exact (ty_ro_b _ _ _ _).1
  have hOR : ∀ p, O p = if R p = 0 then 1000 else R p := fun p => by rw [hO, hR]; rfl
  obtain ⟨j, hj⟩ : ∃ j : MI, j = px_up i2 158 0 0 := ⟨_, rfl⟩
  have cj : ty_ch [158] i2 j := by
    rw [hj]
    exact ty_ch_up (by decide)
  have j0 : j 158 0 = 0 := by rw [hj, ty_up_eq]
  obtain ⟨i3, r3, c3, h3⟩ := ty_227_s (L := L) (r := r) (t := t) hr (d + 35 + 3 + 1 + 1) l2 R O hRb hOR (2 ^ H) (by omega) (2 ^ H - 1) j 1 vJ vJ vJ px_nl_J px_nl_J px_nl_J (by rw [cj 157 (by decide)]; exact h2) ⟨j0, fun s s1 => by
    have : s = 0 := by omega
    rw [this, show ((0 : Nat) : Int) = 0 from rfl, j0]
    exact Or.inr (by omega), fun s s0 s1 => by omega⟩ (by omega) (by omega)
  have ci : ty_ch [71, 72, 120, 121, 122, 140, 156, 157, 158] i i3 := ty_ch_tr (ty_ch_tr (ty_ch_tr c1 c2 (S'' := [71, 72, 120, 121, 122, 140, 156, 157]) rfl rfl) cj (S'' := [71, 72, 120, 121, 122, 140, 156, 157, 158]) rfl rfl) c3 rfl rfl
  have heq := ty_rf_eq (O := O) (f := fun p => i1 122 (p : Int)) (g := fun p => ty_sat (i3 158 (p : Int))) (N := 2 ^ H) (lo := fun s p => p.testBit (ty_lb s) = true) hOb (fun s s0 s1 => by
    obtain ⟨q1, q2, q3⟩ := ty_low s0 (by omega)
    exact ⟨ty_lb s, q2, q3, fun p => Iff.rfl⟩) (by
    show i1 122 0 = ty_sat (i3 158 0)
    rw [h1.2.1.1, h3.1]
    rfl) h1.2.2 h3.2.2 (2 ^ H) (2 ^ H - 1) (by omega) (by omega)
  have hb3 := h3.2.1 (2 ^ H - 1) (by omega)
  have hsz := ty_sz_n (2 ^ H - 1) 7
  have ev : (if 1000 ≤ v then -1 else v) = i3 158 ((2 ^ H - 1 : Nat) : Int) := by
    have heq' : v = ty_sat (i3 158 ((2 ^ H - 1 : Nat) : Int)) := by rw [hv]; exact heq
    rw [heq']
    unfold ty_sat
    by_cases h : i3 158 ((2 ^ H - 1 : Nat) : Int) = -1
    · rw [if_pos h, if_pos (by omega), h]
    · rw [if_neg h, if_neg (by omega)]
  refine ⟨i3 158 ((2 ^ H - 1 : Nat) : Int), i1, l, i3, l2, ?_, ?_, ty_CR_same hc (ty_same_ch ci rfl) (cl2 19 (by decide)) (cl2 46 (by decide)) ?_ ?_ (fun x x0 x1 => ?_), c1 0 (by decide), ci 0 (by decide)⟩
  · rw [e23, b23_0 hr, r1, ev, Option.bind_some, px_psh_some, b23_7 hr]
  · have es : px_shl 1 (i2 124 7) = ((2 ^ H : Nat) : Int) := by rw [c2 124 (by decide), f124, hH, ty_shl_1 H (by omega)]
    have w : px_w32 (((2 ^ H : Nat) : Int) - 1) = ((2 ^ H - 1 : Nat) : Int) := by rw [ty_w (by omega)]; omega
    rw [e227, b227_0 hr, r2, Option.bind_some, px_psh_none, b227_4 hr, es, w, ← hj]
    exact r3
  · intro m m0 m1
    rw [ci 70 (by decide), ty_lev_ch hV.1 ci rfl]
    exact hV.2.1 m m0 m1
  · rw [ci 103 (by decide)]
    have := hY.2.2.2.1
    omega
  · rw [ci 103 (by decide), ci 108 (by decide)]
    exact hY.2.2.2.2 x x0 x1
