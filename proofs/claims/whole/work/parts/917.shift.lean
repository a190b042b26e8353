/-! shift. -/
/-- a draw's next number -/
def ty_dx (x : Int) : Int := Int.tmod (x * 143 + 41) 30103
theorem ty_dx_b {x : Int} (h : 0 ≤ x ∧ x < 70000) : px_w32 (px_w32 (x * 143) + 41) = x * 143 + 41 ∧ 0 ≤ ty_dx x ∧ ty_dx x < 70000 := by
  rw [ty_w (x := x * 143) (by omega), ty_w (by omega)]
  unfold ty_dx
  rw [Int.tmod_eq_emod_of_nonneg (by omega)]
  omega
/-- heights after draws -/
def ty_dr (m : Int) : Nat → Int → (Int → Int) → (Int → Int)
  | 0, _, f => f
  | n + 1, x, f => ty_dr m n (ty_dx (ty_dx x)) (fun c => if c = Int.tmod x m then max 0 (min 99 (f c + Int.tmod (ty_dx x) 3 - 1)) else f c)
def ty_drx : Nat → Int → Int
  | 0, x => x
  | n + 1, x => ty_drx n (ty_dx (ty_dx x))
theorem ty_tm {x m : Int} (h : 0 ≤ x) (hm : 0 < m) : 0 ≤ Int.tmod x m ∧ Int.tmod x m < m := by
  rw [Int.tmod_eq_emod_of_nonneg h]
  exact ⟨Int.emod_nonneg _ (by omega), Int.emod_lt_of_pos _ hm⟩
theorem ty_dr_c {m : Int} (hm : 0 < m) : ∀ (n : Nat) (x : Int) (f g : Int → Int), 0 ≤ x ∧ x < 70000 → (∀ c, 0 ≤ c → c < m → f c = g c) → ∀ c, 0 ≤ c → c < m → ty_dr m n x f c = ty_dr m n x g c
  | 0, _, _, _, _, h, c, c0, c1 => h c c0 c1
  | n + 1, x, f, g, hx, h, c, c0, c1 => by
    have h1 := ty_dx_b hx
    have h2 := ty_dx_b h1.2
    refine ty_dr_c hm n (ty_dx (ty_dx x)) _ _ h2.2 (fun c c0 c1 => ?_) c c0 c1
    rw [h c c0 c1]
theorem ty_dr_b {m : Int} : ∀ (n : Nat) (x : Int) (f : Int → Int), (∀ c, 0 ≤ c → c < m → 0 ≤ f c ∧ f c ≤ 99) → ∀ c, 0 ≤ c → c < m → 0 ≤ ty_dr m n x f c ∧ ty_dr m n x f c ≤ 99
  | 0, _, _, h, c, c0, c1 => h c c0 c1
  | n + 1, x, f, h, c, c0, c1 => by
    refine ty_dr_b n (ty_dx (ty_dx x)) _ (fun c c0 c1 => ?_) c c0 c1
    by_cases hc : c = Int.tmod x m
    · rw [if_pos hc]
      omega
    · rw [if_neg hc]
      exact h c c0 c1
/-- a sum along -/
def ty_sum (f : Int → Int) : Nat → Int → Int → Int
  | 0, _, s => s
  | n + 1, k, s => ty_sum f n (k + 1) (px_w32 (s + f k))
theorem ty_sum_c {f g : Int → Int} : ∀ (n : Nat) (k s : Int), (∀ c, k ≤ c → c < k + n → f c = g c) → ty_sum f n k s = ty_sum g n k s
  | 0, _, _, _ => rfl
  | n + 1, k, s, h => by
    unfold ty_sum
    rw [h k (by omega) (by omega)]
    exact ty_sum_c n (k + 1) _ (fun c c0 c1 => h c (by omega) (by omega))
section TYSH
variable {L t : Nat} {r : MR}
theorem ty_sh_cs (hr : px_hr r) (d : Nat) (i l : MI) (x1 x2 x3 : Int) {v6 : PV} (hn6 : px_nl v6) (hm : i 19 2 ≤ 36) : ∀ (n : Nat) (k s : Int), 0 ≤ k → k + n = i 19 2 → px_X (d + 2) 43 (107, [vR 19, vI x1, vI x2, vI x3, vI s, vI k, v6], []) (px_sh L, i, l, r, t) = some (some (vI (ty_sum (i 20) n k s)), (px_sh L, i, l, r, t))
  | 0, k, s, h0, hn => by
    rw [b43_107 hr _ _ _ _ _ _ _ _ hn6, if_pos (by omega)]
    rfl
  | n + 1, k, s, h0, hn => by
    have w : px_w32 (k + 1) = k + 1 := ty_w (by omega)
    rw [b43_107 hr _ _ _ _ _ _ _ _ hn6, if_neg (by omega), e38, b38_0 hr, q33i hr _ _ _ (px_s20 L) (Nat.le_of_ble_eq_true rfl) _ (by omega), Option.bind_some, px_psh_some, b38_8 hr, Option.bind_some, px_psh_some, b43_124 hr _ _ _ _ _ _ _ _ hn6, w, ty_sh_cs hr d i l x1 x2 x3 hn6 hm n (k + 1) _ (by omega) (by omega)]
    rfl
theorem ty_sh_rs (hr : px_hr r) (d : Nat) (i l : MI) (x1 x2 : Int) {v5 : PV} (hn5 : px_nl v5) (hm : i 123 2 ≤ 36) : ∀ (n : Nat) (k s : Int), 0 ≤ k → k + n = i 123 2 → px_X (d + 2) 232 (118, [vR 123, vI x1, vI x2, vI s, vI k, v5], []) (px_sh L, i, l, r, t) = some (some (vI (ty_sum (fun c => i 124 (20 + 2 * c)) n k s)), (px_sh L, i, l, r, t))
  | 0, k, s, h0, hn => by
    rw [b232_118 hr _ _ _ _ _ _ _ hn5 (fun h => absurd (by omega) h), if_pos (by omega)]
    rfl
  | n + 1, k, s, h0, hn => by
    have w : px_w32 (k + 1) = k + 1 := ty_w (by omega)
    have w1 : px_w32 (2 * k) = 2 * k := ty_w (by omega)
    have w2 : px_w32 (20 + 2 * k) = 20 + 2 * k := ty_w (by omega)
    rw [b232_118 hr _ _ _ _ _ _ _ hn5 (fun _ => by rw [w1, w2]; omega), if_neg (by omega), w, w1, w2, ty_sh_rs hr d i l x1 x2 hn5 hm n (k + 1) _ (by omega) (by omega)]
    rfl
theorem ty_sh_c (hr : px_hr r) (d : Nat) (l : MI) (x1 x2 : Int) (hx2 : x2 ≤ 60) : ∀ (n : Nat) (i : MI) (x k : Int) (v5 v6 : PV), px_nl v5 → px_nl v6 → 0 < i 19 2 → i 19 2 ≤ 36 → (∀ c, 0 ≤ c → c < i 19 2 → 0 ≤ i 20 c ∧ i 20 c ≤ 99) → 0 ≤ x ∧ x < 70000 → 0 ≤ k → k + n = x2 →
    ∃ (i1 : MI) (x' : Int) (v6' : PV), px_X (d + 2) 43 (10, [vR 19, vI x1, vI x2, vI x, vI k, v5, v6], []) (px_sh L, i, l, r, t) = px_X (d + 2) 43 (107, [vR 19, vI x1, vI x2, vI x', vI 0, vI 0, v6'], []) (px_sh L, i1, l, r, t) ∧ px_nl v6' ∧ ty_ch [20] i i1 ∧ i1 20 = ty_dr (i 19 2) n x (i 20)
  | 0, i, x, k, v5, v6, h5, h6, m0, m1, hf, hx, h0, hn => by
    exact ⟨i, x, v6, by rw [b43_10 hr _ _ _ _ _ _ _ h5 h6 (fun h => absurd (by omega) h), if_pos (by omega)], h6, ty_ch_rf, rfl⟩
  | n + 1, i, x, k, v5, v6, h5, h6, m0, m1, hf, hx, h0, hn => by
    have h1 := ty_dx_b hx
    have h2 := ty_dx_b h1.2
    have ht := ty_tm hx.1 m0
    have h3 : 0 ≤ Int.tmod (ty_dx x) 3 ∧ Int.tmod (ty_dx x) 3 < 3 := ty_tm h1.2.1 (by omega)
    have hff := hf _ ht.1 ht.2
    have w : px_w32 (k + 1) = k + 1 := ty_w (by omega)
    have w1 : px_w32 (i 20 (Int.tmod x (i 19 2)) + Int.tmod (ty_dx x) 3) = i 20 (Int.tmod x (i 19 2)) + Int.tmod (ty_dx x) 3 := ty_w (by omega)
    have w2 : px_w32 (i 20 (Int.tmod x (i 19 2)) + Int.tmod (ty_dx x) 3 - 1) = i 20 (Int.tmod x (i 19 2)) + Int.tmod (ty_dx x) 3 - 1 := ty_w (by omega)
    have e1 : Int.tmod (px_w32 (px_w32 (x * 143) + 41)) 30103 = ty_dx x := by rw [h1.1]; rfl
    have e2 : Int.tmod (px_w32 (px_w32 (ty_dx x * 143) + 41)) 30103 = ty_dx (ty_dx x) := by rw [h2.1]; rfl
    obtain ⟨v, hv⟩ : ∃ v : Int, v = i 20 (Int.tmod x (i 19 2)) + Int.tmod (ty_dx x) 3 - 1 := ⟨_, rfl⟩
    have ev : (if 0 < (if v < 99 then v else 99) then (if v < 99 then v else 99) else 0) = max 0 (min 99 v) := by
      by_cases ha : v < 99
      · rw [if_pos ha]
        by_cases hb : 0 < v
        · rw [if_pos hb]; omega
        · rw [if_neg hb]; omega
      · rw [if_neg ha, if_pos (by omega)]; omega
    have hj : px_up i 20 (Int.tmod x (i 19 2)) (max 0 (min 99 v)) 20 = fun c => if c = Int.tmod x (i 19 2) then max 0 (min 99 (i 20 c + Int.tmod (ty_dx x) 3 - 1)) else i 20 c := by
      funext c
      by_cases hc : c = Int.tmod x (i 19 2)
      · rw [if_pos hc, hc, ty_up_eq, hv]
      · rw [if_neg hc, ty_up_j hc]
    have ed : px_up i 20 (Int.tmod x (i 19 2)) (max 0 (min 99 v)) 19 2 = i 19 2 := rfl
    obtain ⟨i1, x', v6', e, n6, c1, e20⟩ := ty_sh_c hr d l x1 x2 hx2 n (px_up i 20 (Int.tmod x (i 19 2)) (max 0 (min 99 v))) (ty_dx (ty_dx x)) (k + 1) (vI (Int.tmod x (i 19 2))) (vI v) (px_nl_I _) (px_nl_I _) m0 m1 (fun c c0 c1 => by
      rw [ed] at c1
      have hjc : px_up i 20 (Int.tmod x (i 19 2)) (max 0 (min 99 v)) 20 c = if c = Int.tmod x (i 19 2) then max 0 (min 99 (i 20 c + Int.tmod (ty_dx x) 3 - 1)) else i 20 c := congrFun hj c
      rw [hjc]
      by_cases hc : c = Int.tmod x (i 19 2)
      · rw [if_pos hc]; omega
      · rw [if_neg hc]; exact hf c c0 c1) h2.2 (by omega) (by omega)
    refine ⟨i1, x', v6', ?_, n6, ty_ch_tr (ty_ch_up (S := [20]) (List.mem_singleton.mpr rfl)) c1 rfl rfl, ?_⟩
    · rw [b43_10 hr _ _ _ _ _ _ _ h5 h6 (fun _ _ => by omega), if_neg (by omega), if_neg (by omega), b43_33 hr _ _ _ _ _ _ _ h5 h6, e38, b38_0 hr, q33i hr _ _ _ (px_s20 L) (Nat.le_of_ble_eq_true rfl) _ (by omega), Option.bind_some, px_psh_some, b38_8 hr, Option.bind_some, px_psh_some, b43_54 hr _ _ _ _ _ _ _ _ h6, e1, e2, w1, w2, ← hv, ev, q34i hr _ _ _ (px_s20 L) (Nat.le_of_ble_eq_true rfl) _ _ (by omega), Option.bind_some, px_psh_none, b43_95 hr, w, e]
    · rw [e20, ed, hj]
      rfl
theorem q231 (hr : px_hr r) (d : Nat) (i l : MI) (m x : Int) (hm : 0 < m) (hx : i 123 55 = x) (h : 0 ≤ x ∧ x < 70000) : px_C d 231 [vR 123, vI m] (px_sh L, i, l, r, t) = some (some (vI (Int.tmod x m)), (px_sh L, px_up i 123 55 (ty_dx x), l, r, t)) := by
  rw [e231, b231_0 hr _ _ _ _ (by omega), hx, (ty_dx_b h).1]
  rfl
theorem ty_sh_r (hr : px_hr r) (d : Nat) (l : MI) (x1 x2 : Int) (hx2 : x2 ≤ 60) : ∀ (n : Nat) (i : MI) (x k : Int) (v4 v5 : PV), px_nl v4 → px_nl v5 → i 123 55 = x → 0 < i 123 2 → i 123 2 ≤ 36 → (∀ c, 0 ≤ c → c < i 123 2 → 0 ≤ i 124 (20 + 2 * c) ∧ i 124 (20 + 2 * c) ≤ 99) → 0 ≤ x ∧ x < 70000 → 0 ≤ k → k + n = x2 →
    ∃ (i1 : MI) (v5' : PV), px_X (d + 2) 232 (35, [vR 123, vI x1, vI x2, vI k, v4, v5], []) (px_sh L, i, l, r, t) = px_X (d + 2) 232 (118, [vR 123, vI x1, vI x2, vI 0, vI 0, v5'], []) (px_sh L, i1, l, r, t) ∧ px_nl v5' ∧ ty_ch [123, 124] i i1 ∧ (∀ j : Int, j ≠ 55 → i1 123 j = i 123 j) ∧ (∀ x : Int, (∀ c, 0 ≤ c → c < i 123 2 → x ≠ 20 + 2 * c) → i1 124 x = i 124 x) ∧ ∀ c, i1 124 (20 + 2 * c) = ty_dr (i 123 2) n x (fun c => i 124 (20 + 2 * c)) c
  | 0, i, x, k, v4, v5, h4, h5, hx5, m0, m1, hf, hx, h0, hn => by
    exact ⟨i, v5, by rw [b232_35 hr _ _ _ _ _ _ h4 h5, if_pos (by omega)], h5, ty_ch_rf, fun _ _ => rfl, fun _ _ => rfl, fun _ => rfl⟩
  | n + 1, i, x, k, v4, v5, h4, h5, hx5, m0, m1, hf, hx, h0, hn => by
    have h1 := ty_dx_b hx
    have h2 := ty_dx_b h1.2
    have ht := ty_tm hx.1 m0
    have h3 : 0 ≤ Int.tmod (ty_dx x) 3 ∧ Int.tmod (ty_dx x) 3 < 3 := ty_tm h1.2.1 (by omega)
    have hff := hf _ ht.1 ht.2
    obtain ⟨y, hy⟩ : ∃ y : Int, y = Int.tmod x (i 123 2) := ⟨_, rfl⟩
    rw [← hy] at ht hff
    have w : px_w32 (k + 1) = k + 1 := ty_w (by omega)
    have w0 : px_w32 (2 * y) = 2 * y := ty_w (by omega)
    have w00 : px_w32 (20 + 2 * y) = 20 + 2 * y := ty_w (by omega)
    have w1 : px_w32 (i 124 (20 + 2 * y) + Int.tmod (ty_dx x) 3) = i 124 (20 + 2 * y) + Int.tmod (ty_dx x) 3 := ty_w (by omega)
    have w2 : px_w32 (i 124 (20 + 2 * y) + Int.tmod (ty_dx x) 3 - 1) = i 124 (20 + 2 * y) + Int.tmod (ty_dx x) 3 - 1 := ty_w (by omega)
    obtain ⟨v, hv⟩ : ∃ v : Int, v = i 124 (20 + 2 * y) + Int.tmod (ty_dx x) 3 - 1 := ⟨_, rfl⟩
    obtain ⟨j, hj⟩ : ∃ j : MI, j = px_up (px_up i 123 55 (ty_dx x)) 123 55 (ty_dx (ty_dx x)) := ⟨_, rfl⟩
    have hj124 : j 124 = i 124 := by rw [hj, ty_up_row (by omega), ty_up_row (by omega)]
    have hj123 : ∀ q : Int, q ≠ 55 → j 123 q = i 123 q := fun q hq => by rw [hj, ty_up_j hq, ty_up_j hq]
    have hjr : ∀ q : Nat, q ≠ 123 → j q = i q := fun q hq => by rw [hj, ty_up_row hq, ty_up_row hq]
    obtain ⟨i3, hi3⟩ : ∃ i3 : MI, i3 = px_up j 124 (20 + 2 * y) (max 0 (min 99 v)) := ⟨_, rfl⟩
    have g123 : i3 123 = j 123 := by rw [hi3, ty_up_row (by omega)]
    have g2 : i3 123 2 = i 123 2 := by rw [g123, hj123 2 (by omega)]
    have g55 : i3 123 55 = ty_dx (ty_dx x) := by rw [g123, hj, ty_up_eq]
    have g124 : ∀ c : Int, i3 124 (20 + 2 * c) = if c = y then max 0 (min 99 (i 124 (20 + 2 * c) + Int.tmod (ty_dx x) 3 - 1)) else i 124 (20 + 2 * c) := fun c => by
      rw [hi3]
      by_cases hc : c = y
      · rw [if_pos hc, hc, ty_up_eq, hv]
      · rw [if_neg hc, ty_up_j (by omega), hj124]
    obtain ⟨i1, v5', e, n5, c1, c123, c124, e20⟩ := ty_sh_r hr d l x1 x2 hx2 n i3 (ty_dx (ty_dx x)) (k + 1) (vI y) (vI v) (px_nl_I _) (px_nl_I _) g55 (by omega) (by omega) (fun c c0 c1 => by
      rw [g2] at c1
      rw [g124]
      by_cases hc : c = y
      · rw [if_pos hc]; omega
      · rw [if_neg hc]; exact hf c c0 c1) h2.2 (by omega) (by omega)
    have hb := b232_67 (L := L) (t := t) hr (d + 2) j l x1 x2 k y h5 (Int.tmod (ty_dx x) 3) (i 124 (20 + 2 * y))
    rw [w1, w2, ← hv, w0, w00, w] at hb
    have hb := hb (fun _ _ => by omega) (fun _ _ => by omega) (fun _ => by omega)
    have hb' : px_X (d + 2) 232 (67, [vR 123, vI x1, vI x2, vI k, vI y, v5], [vI (Int.tmod (ty_dx x) 3), vI (i 124 (20 + 2 * y))]) (px_sh L, j, l, r, t) = px_X (d + 2) 232 (35, [vR 123, vI x1, vI x2, vI (k + 1), vI y, vI v], []) (px_sh L, i3, l, r, t) := by
      rw [hb, hi3]
      by_cases ha : 0 ≤ v
      · rw [if_pos ha]
        by_cases hbb : v ≤ 99
        · rw [if_pos hbb, show max 0 (min 99 v) = v by omega]
        · rw [if_neg hbb, show max 0 (min 99 v) = 99 by omega]
      · rw [if_neg ha, show max 0 (min 99 v) = 0 by omega]
    refine ⟨i1, v5', ?_, n5, fun q hq => ?_, fun q hq => by rw [c123 q hq, g123, hj123 q hq], fun q hq => ?_, fun c => ?_⟩
    · rw [b232_35 hr _ _ _ _ _ _ h4 h5, if_neg (by omega), q231 hr _ _ _ _ x m0 hx5 hx, Option.bind_some, px_psh_some, ← hy, b232_48 hr _ _ _ _ _ _ h4 h5 _ (by rw [w0, w00]; omega), w0, w00, q231 hr _ _ _ _ (ty_dx x) (by omega) ty_up_eq h1.2, Option.bind_some, px_psh_some, ← hj, show (px_up i 123 55 (ty_dx x)) 124 (20 + 2 * y) = i 124 (20 + 2 * y) from rfl, hb', e]
    · rw [c1 q hq, hi3, ty_up_row (fun h => hq (by rw [h]; exact List.mem_cons_of_mem _ (List.mem_singleton.mpr rfl))), hjr q (fun h => hq (by rw [h]; exact List.mem_cons_self))]
    · rw [c124 q (by rw [g2]; exact hq), hi3, ty_up_j (hq y ht.1 ht.2), hj124]
    · rw [e20, g2]
      show _ = ty_dr (i 123 2) n (ty_dx (ty_dx x)) _ c
      congr 1
      funext c
      rw [g124, ← hy]
end TYSH
theorem ok_shift (a b : Int) : ty_ok ty_CR 26 232 [vI a, vI b] := by
  intro L t r hr n d i l hn hc
  have hc' := ty_CR_mono hc
  have hD := hc.1
  have hdim := ty_D_2 hD
  have e19 : i 19 2 = i 123 2 := hD.2.2.2.2.2.1
  obtain ⟨hb, hs, hp, hg, ho, hh, hl, hnn⟩ := hc.2.1
  have b3 := hs.2.2.1
  have b4 := hs.2.2.2.1
  have b7 := hs.2.2.2.2.2.2.1
  have b8 := hs.2.2.2.2.2.2.2
  show ∃ (v : Int) (i1 l1 i2 l2 : MI), px_C (d + 38 + 1 + 1) 26 [vR 3, vI a, vI b] _ = _ ∧ px_C (d + 38 + 1 + 1) 232 [vR 123, vI a, vI b] _ = _ ∧ _
  by_cases ha : 0 ≤ a ∧ a ≤ 9999
  · by_cases hbb : 1 ≤ b ∧ b ≤ 60
    · have w1 : px_w32 (a * 7) = a * 7 := ty_w (by omega)
      have w2 : px_w32 (a * 7 + 3) = a * 7 + 3 := ty_w (by omega)
      have hcell : ∀ c, 0 ≤ c → c < i 19 2 → i 20 c = i 124 (20 + 2 * c) ∧ 0 ≤ i 20 c ∧ i 20 c ≤ 99 := fun c c0 c1 => by
        have h := hb.2.2 c c0 (by omega)
        have h1 : i 20 c = i 124 (20 + 2 * c) := h.1
        have h2 : 0 ≤ i 124 (20 + 2 * c) ∧ i 124 (20 + 2 * c) ≤ 99 := ⟨h.2.1, h.2.2.1⟩
        exact ⟨h1, by omega⟩
      obtain ⟨i1, x', v6', e, n6, c1, e20⟩ := ty_sh_c (L := L) (t := t) hr (d + 37) l a b hbb.2 b.toNat i (a * 7 + 3) 0 vJ vJ px_nl_J px_nl_J (by omega) (by omega) (fun c c0 c1 => (hcell c c0 c1).2) (by omega) (by omega) (by omega)
      have k19 : i1 19 = i 19 := c1 19 (by decide)
      have k123 : i1 123 = i 123 := c1 123 (by decide)
      have k124 : i1 124 = i 124 := c1 124 (by decide)
      have es := ty_sh_cs (L := L) (t := t) hr (d + 37) i1 l a b x' n6 (by rw [k19]; omega) (i 123 2).toNat 0 0 (by omega) (by rw [k19]; omega)
      obtain ⟨j, hj⟩ : ∃ j : MI, j = px_up i1 123 55 (a * 7 + 3) := ⟨_, rfl⟩
      have j123 : ∀ q : Int, q ≠ 55 → j 123 q = i 123 q := fun q hq => by rw [hj, ty_up_j hq, k123]
      have j124 : j 124 = i 124 := by rw [hj, ty_up_row (by omega), k124]
      have j2 := j123 2 (by omega)
      obtain ⟨i2, v5', e', n5, c2, c123, c124, e2⟩ := ty_sh_r (L := L) (t := t) hr (d + 38) l a b hbb.2 b.toNat j (a * 7 + 3) 0 vJ vJ px_nl_J px_nl_J (by rw [hj, ty_up_eq]) (by omega) (by omega) (fun c c0 c1 => by
        have h := hcell c c0 (by omega)
        rw [j124]
        omega) (by omega) (by omega) (by omega)
      have g2 : i2 123 2 = i 123 2 := by rw [c123 2 (by omega), j2]
      have es' := ty_sh_rs (L := L) (t := t) hr (d + 38) i2 l a b n5 (by omega) (i 123 2).toNat 0 0 (by omega) (by omega)
      have heq : ∀ c, 0 ≤ c → c < i 123 2 → i1 20 c = i2 124 (20 + 2 * c) := fun c c0 c1 => by
        rw [e20, e2, j2, e19]
        refine ty_dr_c (by omega) _ _ _ _ (by omega) (fun c c0 c1 => ?_) c c0 c1
        rw [j124]
        exact (hcell c c0 (by omega)).1
      have hbd : ∀ c, 0 ≤ c → c < i 123 2 → 0 ≤ i1 20 c ∧ i1 20 c ≤ 99 := fun c c0 c1 => by
        rw [e20, e19]
        exact ty_dr_b _ _ _ (fun c c0 c1 => (hcell c c0 (by omega)).2) c c0 c1
      have esum : ty_sum (i1 20) (i 123 2).toNat 0 0 = ty_sum (fun c => i2 124 (20 + 2 * c)) (i 123 2).toNat 0 0 := ty_sum_c _ _ _ (fun c c0 c1 => heq c c0 (by omega))
      have hA : ∀ x : Int, (∀ c, 0 ≤ c → c < i 123 2 → x ≠ 20 + 2 * c) → i2 124 x = i 124 x := fun x hx => by rw [c124 x (by rw [j2]; exact hx), j124]
      have hA' : ∀ x : Int, (x < 20 ∨ 92 ≤ x) → i2 124 x = i 124 x := fun x hx => hA x (fun c c0 c1 => by omega)
      have hR : ∀ k, k ≠ 20 → k ≠ 123 → k ≠ 124 → i2 k = i k := fun k k0 k1 k2 => by
        rw [c2 k (fun h => by
          simp only [List.mem_cons, List.not_mem_nil, or_false] at h
          omega), hj, ty_up_row k1, c1 k (fun h => k0 (List.mem_singleton.mp h))]
      have h20 : i2 20 = i1 20 := by
        rw [c2 20 (by decide), hj, ty_up_row (by omega)]
      have h123 : ∀ q : Int, q ≠ 55 → i2 123 q = i 123 q := fun q hq => by rw [c123 q hq, j123 q hq]
      refine ⟨ty_sum (i1 20) (i 123 2).toNat 0 0, i1, l, i2, l, ?_, ?_, ⟨?_, ⟨?_, ?_, ?_, ?_, ?_, ?_, ?_, ?_⟩, ?_, ?_, ?_⟩, c1 0 (by decide), hR 0 (by omega) (by omega) (by omega)⟩
      · rw [e26, b26_0 hr, q30 hr, Option.bind_some, px_psh_some, b26_8 hr, px_bi_T ha, if_neg (by omega), q30 hr, Option.bind_some, px_psh_some, b26_18 hr, px_bi_T hbb, if_neg (by omega), e43, b43_0 hr, w1, w2, e, es, Option.bind_some, px_psh_some, b26_35 hr]
      · rw [e232, b232_0 hr, q141 hr, Option.bind_some, px_psh_some, b232_8 hr, px_bi_T ha, if_neg (by omega), q141 hr, Option.bind_some, px_psh_some, b232_18 hr, px_bi_T hbb, if_neg (by omega), w1, w2, ← hj, e', es', esum]
      · exact ty_D_c (i := i) (l := l) (h123 _ (by omega)) (h123 _ (by omega)) (h123 _ (by omega)) (by rw [hR _ (by omega) (by omega) (by omega)]) (by rw [hR _ (by omega) (by omega) (by omega)]) (by rw [hR _ (by omega) (by omega) (by omega)]) rfl rfl rfl (ty_gs_fr (fun k k0 k1 => hR k (by omega) (by omega) (by omega))) hD
      · refine ⟨?_, ?_, fun c c0 c1 => ?_⟩
        · rw [hA' 0 (by omega), hR _ (by omega) (by omega) (by omega), g2]
          exact hb.1
        · rw [g2]
          exact hb.2.1
        · rw [g2] at c1
          have h := hb.2.2 c c0 c1
          have h1 := heq c c0 c1
          have h2 := hbd c c0 c1
          rw [hA (21 + 2 * c) (fun q _ _ => by omega)]
          refine ⟨?_, by omega, by omega, h.2.2.2⟩
          show i2 20 c = _
          rw [h20, h1]
      · exact ty_Hs_c (hR _ (by omega) (by omega) (by omega)) (by rw [hR _ (by omega) (by omega) (by omega)]) (fun x hx => hA' x (by omega)) hs
      · exact ty_Hp_c (hR _ (by omega) (by omega) (by omega)) (hR _ (by omega) (by omega) (by omega)) b3.2.2 (fun x hx => hA' x (by omega)) hp
      · exact ty_Hg_c (fun k hk => hR _ (by omega) (by omega) (by omega)) b4.2.2 (fun x hx => hA' x (by omega)) hg
      · exact ty_Ho_c (hR _ (by omega) (by omega) (by omega)) b4.2.2 (fun x hx => hA' x (by omega)) ho
      · exact ty_Hh_c (hR _ (by omega) (by omega) (by omega)) b7.2.2 (fun x hx => hA' x (by omega)) hh
      · exact ty_Hl_c (hR _ (by omega) (by omega) (by omega)) (hR _ (by omega) (by omega) (by omega)) (hR _ (by omega) (by omega) (by omega)) b8.2.2 (by rw [hA' 4 (by omega)]; omega) (by rw [hA' 3 (by omega)]; omega) (fun x hx => hA' x (by omega)) hl
      · exact ty_Hn_c (hR _ (by omega) (by omega) (by omega)) (hR _ (by omega) (by omega) (by omega)) (hR _ (by omega) (by omega) (by omega)) (hR _ (by omega) (by omega) (by omega)) (hR _ (by omega) (by omega) (by omega)) (fun x hx => hA' x (by omega)) hnn
      · exact ty_H_same 27 125 (i := i) (l := l) (fun k k0 k1 => hR _ (by omega) (by omega) (by omega)) (hR _ (by omega) (by omega) (by omega)) (h123 2 (by omega)) rfl (by omega) hc.2.2.1
      · exact ty_T_c (by rw [hR _ (by omega) (by omega) (by omega)]) (by rw [hR _ (by omega) (by omega) (by omega)]) (by rw [hR _ (by omega) (by omega) (by omega)]) (by rw [hR _ (by omega) (by omega) (by omega)]) (h123 _ (by omega)) (h123 _ (by omega)) (h123 _ (by omega)) (hR _ (by omega) (by omega) (by omega)) (hR _ (by omega) (by omega) (by omega)) hc.2.2.2.1
      · have e48 : i 4 8 = i 124 6 := hs.2.2.2.2.2.1.1
        have b5 := hs.2.2.2.2.1
        have b6 := hs.2.2.2.2.2.1
        exact ty_Y_c (i := i) (by omega) (by omega) (hA' 5 (by omega)) (by rw [hR _ (by omega) (by omega) (by omega)]) (fun k k0 k1 => hR _ (by omega) (by omega) (by omega)) (fun k k0 k1 => hR _ (by omega) (by omega) (by omega)) (fun m m0 m1 => Or.inr ⟨by rw [hR _ (by omega) (by omega) (by omega)], by rw [hR _ (by omega) (by omega) (by omega)], by rw [hR _ (by omega) (by omega) (by omega)], by rw [hR _ (by omega) (by omega) (by omega)]⟩) (by rw [hR _ (by omega) (by omega) (by omega)]) (hR _ (by omega) (by omega) (by omega)) hc.2.2.2.2
    · refine ⟨-1, i, l, i, l, ?_, ?_, hc', rfl, rfl⟩
      · rw [e26, b26_0 hr, q30 hr, Option.bind_some, px_psh_some, b26_8 hr, px_bi_T ha, if_neg (by omega), q30 hr, Option.bind_some, px_psh_some, b26_18 hr, px_bi_F hbb, if_pos rfl]
      · rw [e232, b232_0 hr, q141 hr, Option.bind_some, px_psh_some, b232_8 hr, px_bi_T ha, if_neg (by omega), q141 hr, Option.bind_some, px_psh_some, b232_18 hr, px_bi_F hbb, if_pos rfl]
  · refine ⟨-1, i, l, i, l, ?_, ?_, hc', rfl, rfl⟩
    · rw [e26, b26_0 hr, q30 hr, Option.bind_some, px_psh_some, b26_8 hr, px_bi_F ha, if_pos rfl]
    · rw [e232, b232_0 hr, q141 hr, Option.bind_some, px_psh_some, b232_8 hr, px_bi_F ha, if_pos rfl]
