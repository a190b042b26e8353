/-! Perches given: the reference's loops (221). -/
theorem tg_wr_i {i j : MI} {lv : Int} {who pl : Int → Int} (h : j 124 = i 124) : ∀ (n : Nat) (k s : Int) (room : Int → Int), tg_wr j lv who pl n k room s = tg_wr i lv who pl n k room s
  | 0, _, _, _ => rfl
  | n + 1, k, s, room => by
    have e1 : tg_dp j lv = tg_dp i lv := by
      unfold tg_dp tg_dr
      rw [h]
    have e2 : tg_w j = tg_w i := by
      unfold tg_w th_rk
      rw [h]
    unfold tg_wr
    rw [e1, e2, tg_wr_i h n (k + 1)]
theorem tg_rm_i {i j : MI} (h : j 124 = i 124) : tg_rm j = tg_rm i := by
  unfold tg_rm
  rw [h]
theorem tg_9 {n : Nat} (h : n ≤ 5) : 1 ≤ 9 ^ n ∧ 9 ^ n ≤ 59049 := ⟨Nat.pow_pos (by decide), Nat.pow_le_pow_right (n := 9) (by decide) h⟩
theorem tg_w9 {c : Nat} (h : c ≤ 4) : px_w32 (((9 ^ c : Nat) : Int) * 9) = ((9 ^ (c + 1) : Nat) : Int) := by
  have h9 := tg_9 (n := c) (by omega)
  rw [Nat.pow_succ, ty_w (by omega)]
  omega
theorem tg_wc {c : Nat} (h : c < 1000000) : px_w32 ((c : Int) + 1) = ((c + 1 : Nat) : Int) := by
  rw [ty_w (by omega)]
  omega
theorem tg_wc2 {c : Nat} (h : c < 1000000) : px_w32 ((c : Int) + 1 + 1) = ((c + 1 : Nat) : Int) + 1 := by
  rw [ty_w (by omega)]
  omega
theorem tg_wm {c : Nat} (h : c < 1000000) : px_w32 ((c : Int) + (-1)) = (c : Int) - 1 := by
  rw [ty_w (by omega)]
  omega
theorem tg_wn {c : Nat} (h : c < 1000000) : px_w32 ((c : Int) - 1) = (c : Int) - 1 := ty_w (by omega)
theorem tg_wd {q : Nat} (h : q < 1000000) : px_w32 (Int.tdiv (q : Int) 9) = ((q / 9 : Nat) : Int) := by
  rw [show Int.tdiv (q : Int) 9 = ((q / 9 : Nat) : Int) from rfl]
  exact ty_w (by omega)
section TGX
variable {L t : Nat} {r : MR}
theorem tg_221_w (hr : px_hr r) (d : Nat) (i0 l : MI) (x1 x2 x3 S : Int) (n : Nat) (hQ : ty_HG i0) (hn5 : n ≤ 5) (hS : 0 ≤ S ∧ S < 1024) (hb : ∀ g, 0 ≤ g → g < i0 124 4 → i0 124 (128 + 14 * g) = if ty_bit S g = true then 1 else 0) : ∀ (N c : Nat) (i : MI) (g : Int), ty_ch [152] i0 i → 0 ≤ g → g + N = i0 124 4 → (c : Int) + th_ct S N g = n → (∀ j, 0 ≤ j → j < g → (ty_bit S j = true ↔ ∃ x, 0 ≤ x ∧ x < (c : Int) ∧ i 152 x = j)) → (∀ x, 0 ≤ x → x < (c : Int) → 0 ≤ i 152 x ∧ i 152 x < g) → (∀ x y, 0 ≤ x → x < y → y < (c : Int) → i 152 x < i 152 y) →
    ∃ i1 : MI, px_X (d + 1 + 1) 221 (51, [vR 123, vI x1, vI x2, vI x3, vI ((9 ^ c : Nat) : Int), vI (c : Int), vI g, vJ, vJ, vJ, vJ, vJ], []) (px_sh L, i, l, r, t) = px_X (d + 1 + 1) 221 (51, [vR 123, vI x1, vI x2, vI x3, vI ((9 ^ n : Nat) : Int), vI (n : Int), vI (i0 124 4), vJ, vJ, vJ, vJ, vJ], []) (px_sh L, i1, l, r, t) ∧ ty_ch [152] i0 i1 ∧
      (∀ j, 0 ≤ j → j < i0 124 4 → (ty_bit S j = true ↔ ∃ x, 0 ≤ x ∧ x < (n : Int) ∧ i1 152 x = j)) ∧ (∀ x, 0 ≤ x → x < (n : Int) → 0 ≤ i1 152 x ∧ i1 152 x < i0 124 4) ∧ (∀ x y, 0 ≤ x → x < y → y < (n : Int) → i1 152 x < i1 152 y)
  | 0, c, i, g, hc, hg, hN, hcn, h1, h2, h3 => by
    have e0 : th_ct S 0 g = 0 := rfl
    have ec : c = n := by omega
    have eg : g = i0 124 4 := by omega
    rw [ec] at h1 h2 h3 ⊢
    rw [eg] at h1 h2 ⊢
    exact ⟨i, rfl, hc, h1, h2, h3⟩
  | N + 1, c, i, g, hc, hg, hN, hcn, h1, h2, h3 => by
    have b4 := hQ.1
    have e124 : i 124 = i0 124 := hc 124 (by decide)
    have ect : th_ct S (N + 1) g = (if ty_bit S g = true then 1 else 0) + th_ct S N (g + 1) := rfl
    have hb2 := (th_ct_b (X := S) N (g + 1)).1
    rw [ect] at hcn
    have hbg := hb g hg (by omega)
    have wg : px_w32 (g + 1) = g + 1 := ty_w (by omega)
    rw [b221_51 hr, if_neg (by rw [e124]; omega), q146 hr _ _ _ _ _ (by omega) (by omega), show 120 + 14 * g + 8 = 128 + 14 * g by omega, e124, hbg, Option.bind_some, px_psh_some]
    by_cases cb : ty_bit S g = true
    · rw [if_pos cb] at hcn ⊢
      rw [b221_70 hr _ _ _ _ _ _ _ _ _ _ (fun _ => by omega), if_pos rfl, tg_w9 (c := c) (by omega), tg_wc (c := c) (by omega), wg]
      refine tg_221_w hr d i0 l x1 x2 x3 S n hQ hn5 hS hb N (c + 1) (px_up i 152 c g) (g + 1) (ty_ch_tr hc (ty_ch_up (S := [152]) (by decide)) rfl rfl) (by omega) (by omega) (by omega) (fun j j0 j1 => ?_) (fun x x0 x1 => ?_) (fun x y x0 xy y1 => ?_)
      · by_cases ej : j = g
        · rw [ej]
          exact ⟨fun _ => ⟨c, by omega, by omega, by rw [ty_up_eq]⟩, fun _ => cb⟩
        · rw [h1 j j0 (by omega)]
          constructor
          · rintro ⟨x, x0, x1, x2⟩
            exact ⟨x, x0, by omega, by rw [ty_up_j (by omega)]; exact x2⟩
          · rintro ⟨x, x0, x1, x2⟩
            by_cases ex : x = (c : Int)
            · rw [ex, ty_up_eq] at x2
              omega
            · rw [ty_up_j ex] at x2
              exact ⟨x, x0, by omega, x2⟩
      · by_cases ex : x = (c : Int)
        · rw [ex, ty_up_eq]
          omega
        · rw [ty_up_j ex]
          have := h2 x x0 (by omega)
          omega
      · by_cases ey : y = (c : Int)
        · rw [ey, ty_up_eq, ty_up_j (by omega)]
          exact (h2 x x0 (by omega)).2
        · rw [ty_up_j ey, ty_up_j (by omega)]
          exact h3 x y x0 xy (by omega)
    · rw [if_neg cb] at hcn ⊢
      rw [b221_70 hr _ _ _ _ _ _ _ _ _ _ (fun h => absurd h (by decide)), if_neg (by decide), wg]
      refine tg_221_w hr d i0 l x1 x2 x3 S n hQ hn5 hS hb N c i (g + 1) hc (by omega) (by omega) (by omega) (fun j j0 j1 => ?_) (fun x x0 x1 => ?_) h3
      · by_cases ej : j = g
        · rw [ej]
          refine ⟨fun h => absurd h cb, ?_⟩
          rintro ⟨x, x0, x1, x2⟩
          have := h2 x x0 x1
          omega
        · exact h1 j j0 (by omega)
      · have := h2 x x0 x1
        omega
/-- the digits -/
theorem tg_221_d (hr : px_hr r) (d : Nat) (l : MI) (x1 x2 x3 x4 x5 x6 x7 x8 : Int) {v11 : PV} (hn11 : px_nl v11) : ∀ (m : Nat) (i : MI) (q : Nat), m ≤ 5 → q < 59049 →
    ∃ (i1 : MI) (y : Int), px_X (d + 1) 221 (128, [vR 123, vI x1, vI x2, vI x3, vI x4, vI x5, vI x6, vI x7, vI x8, vI (q : Int), vI ((m : Int) - 1), v11], []) (px_sh L, i, l, r, t) = px_X (d + 1) 221 (128, [vR 123, vI x1, vI x2, vI x3, vI x4, vI x5, vI x6, vI x7, vI x8, vI y, vI (-1), v11], []) (px_sh L, i1, l, r, t) ∧ ty_ch [153] i i1 ∧ (∀ x, 0 ≤ x → x < (m : Int) → i1 153 x = tg_dg m q x) ∧ ∀ x, (m : Int) ≤ x → i1 153 x = i 153 x
  | 0, i, q, hm, hq => ⟨i, q, rfl, ty_ch_rf, fun x x0 x1 => by omega, fun _ _ => rfl⟩
  | m + 1, i, q, hm, hq => by
    have em : Int.tmod (q : Int) 9 = ((q % 9 : Nat) : Int) := rfl
    have ek : ((m + 1 : Nat) : Int) - 1 = (m : Int) := by omega
    obtain ⟨i1, y, r1, c1, p1, p2⟩ := tg_221_d hr d l x1 x2 x3 x4 x5 x6 x7 x8 hn11 m (px_up i 153 (m : Int) ((q % 9 : Nat) : Int)) (q / 9) (by omega) (by omega)
    refine ⟨i1, y, ?_, ty_ch_tr (ty_ch_up (S := [153]) (by decide)) c1 rfl rfl, fun x x0 x1 => ?_, fun x x0 => ?_⟩
    · rw [ek, b221_128 hr _ _ _ _ _ _ _ _ _ _ _ _ _ hn11 (fun _ => by omega), if_neg (by omega), em, tg_wd (q := q) (by omega), tg_wm (c := m) (by omega)]
      exact r1
    · show i1 153 x = if x = (m : Int) then ((q % 9 : Nat) : Int) else tg_dg m (q / 9) x
      by_cases e : x = (m : Int)
      · rw [if_pos e, p2 x (by omega), e, ty_up_eq]
      · rw [if_neg e]
        exact p1 x x0 (by omega)
    · rw [p2 x (by omega), ty_up_j (by omega)]
/-- the best kept -/
theorem tg_221_c (hr : px_hr r) (d : Nat) (l : MI) (x1 x2 x4 x5 x6 x7 x8 x9 x10 : Int) (n : Nat) (hn5 : n ≤ 5) : ∀ (m : Nat) (i : MI) (k : Int), 0 ≤ k → k + m = n →
    ∃ (i1 : MI) (y : Int), px_X (d + 1) 221 (193, [vR 123, vI x1, vI x2, vI (n : Int), vI x4, vI x5, vI x6, vI x7, vI x8, vI x9, vI x10, vI k], []) (px_sh L, i, l, r, t) = px_X (d + 1) 221 (112, [vR 123, vI x1, vI x2, vI (n : Int), vI x4, vI x5, vI x6, vI x7, vI (px_w32 (x8 + 1)), vI x9, vI x10, vI y], []) (px_sh L, i1, l, r, t) ∧ ty_ch [154] i i1 ∧ (∀ x, k ≤ x → x < (n : Int) → i1 154 x = i 153 x) ∧ ∀ x, x < k → i1 154 x = i 154 x
  | 0, i, k, hk, hn => by
    refine ⟨i, k, ?_, ty_ch_rf, fun x x0 x1 => by omega, fun _ _ => rfl⟩
    rw [b221_193 hr _ _ _ _ _ _ _ _ _ _ _ _ _ _ (fun h => absurd (by omega) h), if_pos (by omega)]
  | m + 1, i, k, hk, hn => by
    have wk : px_w32 (k + 1) = k + 1 := ty_w (by omega)
    obtain ⟨i1, y, r1, c1, p1, p2⟩ := tg_221_c hr d l x1 x2 x4 x5 x6 x7 x8 x9 x10 n hn5 m (px_up i 154 k (i 153 k)) (k + 1) (by omega) (by omega)
    refine ⟨i1, y, ?_, ty_ch_tr (ty_ch_up (S := [154]) (by decide)) c1 rfl rfl, fun x x0 x1 => ?_, fun x x0 => ?_⟩
    · rw [b221_193 hr _ _ _ _ _ _ _ _ _ _ _ _ _ _ (fun _ => by omega), if_neg (by omega), wk]
      exact r1
    · by_cases e : x = k
      · rw [p2 x (by omega), e, ty_up_eq]
      · rw [p1 x (by omega) x1, ty_up_row (by decide)]
    · rw [p2 x (by omega), ty_up_j (by omega)]
/-- the search -/
theorem tg_221_q (hr : px_hr r) (d : Nat) (i0 l : MI) (x1 x2 x5 lv W : Int) (n qs : Nat) (hQ : ty_HG i0) (hn5 : n ≤ 5) (hlv : 0 ≤ lv ∧ lv ≤ 999) (hwho : ∀ k, 0 ≤ k → k < (n : Int) → 0 ≤ i0 152 k ∧ i0 152 k < i0 124 4) (hqs : qs < 9 ^ n) (hW0 : 0 ≤ W)
    (hW : tg_wr i0 lv (i0 152) (tg_dg n qs) n 0 (tg_rm i0) 0 = W)
    (hlt : ∀ q, q < qs → tg_wr i0 lv (i0 152) (tg_dg n q) n 0 (tg_rm i0) 0 = -1 ∨ W < tg_wr i0 lv (i0 152) (tg_dg n q) n 0 (tg_rm i0) 0)
    (hle : ∀ q, tg_wr i0 lv (i0 152) (tg_dg n q) n 0 (tg_rm i0) 0 = -1 ∨ W ≤ tg_wr i0 lv (i0 152) (tg_dg n q) n 0 (tg_rm i0) 0) :
    ∀ (M q : Nat) (i : MI) (least : Int) (v9 v10 v11 : PV), px_nl v9 → px_nl v10 → px_nl v11 → q + M = 9 ^ n → ty_ch [143, 153, 154] i0 i → (q ≤ qs → least = -1 ∨ W < least) → (qs < q → least = W ∧ ∀ x, 0 ≤ x → x < (n : Int) → i 154 x = tg_dg n qs x) →
    ∃ (i1 : MI) (w9 w10 w11 : PV), px_nl w9 ∧ px_nl w10 ∧ px_nl w11 ∧ px_X (d + 1 + 1) 221 (112, [vR 123, vI x1, vI x2, vI (n : Int), vI ((9 ^ n : Nat) : Int), vI x5, vI lv, vI least, vI (q : Int), v9, v10, v11], []) (px_sh L, i, l, r, t) = px_X (d + 1 + 1) 221 (112, [vR 123, vI x1, vI x2, vI (n : Int), vI ((9 ^ n : Nat) : Int), vI x5, vI lv, vI W, vI ((9 ^ n : Nat) : Int), w9, w10, w11], []) (px_sh L, i1, l, r, t) ∧ ty_ch [143, 153, 154] i0 i1 ∧ ∀ x, 0 ≤ x → x < (n : Int) → i1 154 x = tg_dg n qs x
  | 0, q, i, least, v9, v10, v11, n9, n10, n11, hM, hc, h1, h2 => by
    have eq : q = 9 ^ n := by omega
    obtain ⟨e1, e2⟩ := h2 (by omega)
    rw [eq, e1]
    exact ⟨i, v9, v10, v11, n9, n10, n11, rfl, hc, e2⟩
  | M + 1, q, i, least, v9, v10, v11, n9, n10, n11, hM, hc, h1, h2 => by
    have h9 := tg_9 hn5
    obtain ⟨ia, y, ra, ca, pa, -⟩ := tg_221_d (L := L) (r := r) (t := t) hr (d + 1) l x1 x2 (n : Int) ((9 ^ n : Nat) : Int) x5 lv least (q : Int) n11 n i q hn5 (by omega)
    have cia : ty_ch [143, 153, 154] i0 ia := ty_ch_tr hc ca rfl rfl
    have e124 : ia 124 = i0 124 := cia 124 (by decide)
    have e152 : ia 152 = i0 152 := cia 152 (by decide)
    have hQa : ty_HG ia := ty_HG_ch hQ cia rfl
    obtain ⟨ib, rb, cb⟩ := tg_220 (L := L) (r := r) (t := t) hr d ia l (n : Int) lv hQa hlv (by omega) (fun k k0 k1 => by rw [e152, e124]; exact hwho k k0 k1) (fun k k0 k1 => by rw [pa k k0 k1]; exact tg_dg_b n q k)
    have cib : ty_ch [143, 153, 154] i0 ib := ty_ch_tr cia cb rfl rfl
    have ev : tg_wr ia lv (ia 152) (ia 153) (n : Int).toNat 0 (tg_rm ia) 0 = tg_wr i0 lv (i0 152) (tg_dg n q) n 0 (tg_rm i0) 0 := by
      rw [tg_wr_i e124, tg_rm_i e124, e152, Int.toNat_natCast]
      exact tg_wr_p n 0 0 _ (fun x x0 x1 => pa x x0 (by omega))
    rw [ev] at rb
    obtain ⟨v, hv⟩ : ∃ v, v = tg_wr i0 lv (i0 152) (tg_dg n q) n 0 (tg_rm i0) 0 := ⟨_, rfl⟩
    have hleq := hle q
    have hltq := hlt q
    rw [← hv] at rb hleq hltq
    have i154 : ib 154 = i 154 := (cb 154 (by decide)).trans (ca 154 (by decide))
    have ib153 : ib 153 = ia 153 := cb 153 (by decide)
    have e1 : px_X (d + 1 + 1) 221 (112, [vR 123, vI x1, vI x2, vI (n : Int), vI ((9 ^ n : Nat) : Int), vI x5, vI lv, vI least, vI (q : Int), v9, v10, v11], []) (px_sh L, i, l, r, t) = px_X (d + 1 + 1) 221 (165, [vR 123, vI x1, vI x2, vI (n : Int), vI ((9 ^ n : Nat) : Int), vI x5, vI lv, vI least, vI (q : Int), vI y, vI (-1), v11], [vI v]) (px_sh L, ib, l, r, t) := by
      rw [b221_112 hr _ _ _ _ _ _ _ _ _ _ _ n9 n10 n11, if_neg (by omega), tg_wn (c := n) (by omega), ra, b221_128 hr _ _ _ _ _ _ _ _ _ _ _ _ _ n11 (fun h => absurd (by omega) h), if_pos (by omega), rb, Option.bind_some, px_psh_some]
    have h165 := b221_165 (L := L) (t := t) hr (d + 1 + 1) ib l x1 x2 (n : Int) ((9 ^ n : Nat) : Int) x5 lv least (q : Int) y (-1) n11 v
    rw [tg_wc (c := q) (by omega)] at h165
    have skip : px_X (d + 1 + 1) 221 (165, [vR 123, vI x1, vI x2, vI (n : Int), vI ((9 ^ n : Nat) : Int), vI x5, vI lv, vI least, vI (q : Int), vI y, vI (-1), v11], [vI v]) (px_sh L, ib, l, r, t) = px_X (d + 1 + 1) 221 (112, [vR 123, vI x1, vI x2, vI (n : Int), vI ((9 ^ n : Nat) : Int), vI x5, vI lv, vI least, vI ((q + 1 : Nat) : Int), vI y, vI v, v11], []) (px_sh L, ib, l, r, t) → (q + 1 ≤ qs → least = -1 ∨ W < least) → (qs < q + 1 → qs < q) →
        ∃ (i1 : MI) (w9 w10 w11 : PV), px_nl w9 ∧ px_nl w10 ∧ px_nl w11 ∧ px_X (d + 1 + 1) 221 (112, [vR 123, vI x1, vI x2, vI (n : Int), vI ((9 ^ n : Nat) : Int), vI x5, vI lv, vI least, vI (q : Int), v9, v10, v11], []) (px_sh L, i, l, r, t) = px_X (d + 1 + 1) 221 (112, [vR 123, vI x1, vI x2, vI (n : Int), vI ((9 ^ n : Nat) : Int), vI x5, vI lv, vI W, vI ((9 ^ n : Nat) : Int), w9, w10, w11], []) (px_sh L, i1, l, r, t) ∧ ty_ch [143, 153, 154] i0 i1 ∧ ∀ x, 0 ≤ x → x < (n : Int) → i1 154 x = tg_dg n qs x := fun hs g1 g2 => by
      obtain ⟨i1, w9, w10, w11, m9, m10, m11, r1, c1, p1⟩ := tg_221_q hr d i0 l x1 x2 x5 lv W n qs hQ hn5 hlv hwho hqs hW0 hW hlt hle M (q + 1) ib least (vI y) (vI v) v11 (px_nl_I _) (px_nl_I _) n11 (by omega) cib g1 (fun h => by
        obtain ⟨a, b⟩ := h2 (g2 h)
        exact ⟨a, fun x x0 x1 => by rw [i154]; exact b x x0 x1⟩)
      exact ⟨i1, w9, w10, w11, m9, m10, m11, by rw [e1, hs, r1], c1, p1⟩
    have take : px_X (d + 1 + 1) 221 (165, [vR 123, vI x1, vI x2, vI (n : Int), vI ((9 ^ n : Nat) : Int), vI x5, vI lv, vI least, vI (q : Int), vI y, vI (-1), v11], [vI v]) (px_sh L, ib, l, r, t) = px_X (d + 1 + 1) 221 (193, [vR 123, vI x1, vI x2, vI (n : Int), vI ((9 ^ n : Nat) : Int), vI x5, vI lv, vI v, vI (q : Int), vI y, vI v, vI 0], []) (px_sh L, ib, l, r, t) → (q + 1 ≤ qs → W < v) → (qs < q + 1 → q = qs ∧ v = W) →
        ∃ (i1 : MI) (w9 w10 w11 : PV), px_nl w9 ∧ px_nl w10 ∧ px_nl w11 ∧ px_X (d + 1 + 1) 221 (112, [vR 123, vI x1, vI x2, vI (n : Int), vI ((9 ^ n : Nat) : Int), vI x5, vI lv, vI least, vI (q : Int), v9, v10, v11], []) (px_sh L, i, l, r, t) = px_X (d + 1 + 1) 221 (112, [vR 123, vI x1, vI x2, vI (n : Int), vI ((9 ^ n : Nat) : Int), vI x5, vI lv, vI W, vI ((9 ^ n : Nat) : Int), w9, w10, w11], []) (px_sh L, i1, l, r, t) ∧ ty_ch [143, 153, 154] i0 i1 ∧ ∀ x, 0 ≤ x → x < (n : Int) → i1 154 x = tg_dg n qs x := fun hs g1 g2 => by
      obtain ⟨ic, z, rc, cc, pc, -⟩ := tg_221_c (L := L) (r := r) (t := t) hr (d + 1) l x1 x2 ((9 ^ n : Nat) : Int) x5 lv v (q : Int) y v n hn5 n ib 0 (by omega) (by omega)
      rw [tg_wc (c := q) (by omega)] at rc
      obtain ⟨i1, w9, w10, w11, m9, m10, m11, r1, c1, p1⟩ := tg_221_q hr d i0 l x1 x2 x5 lv W n qs hQ hn5 hlv hwho hqs hW0 hW hlt hle M (q + 1) ic v (vI y) (vI v) (vI z) (px_nl_I _) (px_nl_I _) (px_nl_I _) (by omega) (ty_ch_tr cib cc rfl rfl) (fun h => Or.inr (g1 h)) (fun h => by
        obtain ⟨a, b⟩ := g2 h
        refine ⟨b, fun x x0 x1 => ?_⟩
        rw [pc x x0 x1, ib153, pa x x0 x1, a])
      exact ⟨i1, w9, w10, w11, m9, m10, m11, by rw [e1, hs, rc, r1], c1, p1⟩
    by_cases q1 : v = -1
    · rw [if_pos q1] at h165
      refine skip h165 (fun h => h1 (by omega)) (fun h => ?_)
      by_cases e : q = qs
      · rw [e, hW] at hv
        omega
      · omega
    · rw [if_neg q1] at h165
      have hleq' : W ≤ v := by
        rcases hleq with h | h
        · exact absurd h q1
        · exact h
      have htk : (q + 1 ≤ qs → W < v) := fun h => by
        rcases hltq (by omega) with h | h
        · exact absurd h q1
        · exact h
      by_cases q2 : least = -1
      · rw [if_pos q2] at h165
        refine take h165 htk (fun h => ?_)
        by_cases e : q = qs
        · refine ⟨e, ?_⟩
          rw [e, hW] at hv
          exact hv
        · have := (h2 (by omega)).1
          omega
      · rw [if_neg q2] at h165
        by_cases q3 : least ≤ v
        · rw [if_pos q3] at h165
          refine skip h165 (fun h => h1 (by omega)) (fun h => ?_)
          by_cases e : q = qs
          · rw [e, hW] at hv
            rcases h1 (by omega) with h | h
            · exact absurd h q2
            · omega
          · omega
        · rw [if_neg q3] at h165
          refine take h165 htk (fun h => ?_)
          by_cases e : q = qs
          · refine ⟨e, ?_⟩
            rw [e, hW] at hv
            exact hv
          · have := (h2 (by omega)).1
            omega
/-- the guest's place found -/
theorem tg_221_f (hr : px_hr r) (d : Nat) (i l : MI) (x1 x3 x4 x5 x6 x7 a : Int) {v9 v10 v11 : PV} (n9 : px_nl v9) (n10 : px_nl v10) (n11 : px_nl v11) (ha : a < 5) (hne : ∀ x, 0 ≤ x → x < a → i 152 x ≠ i 152 a) : ∀ (m : Nat) (k : Int), 0 ≤ k → k + m = a →
    px_X (d + 1) 221 (236, [vR 123, vI x1, vI (i 152 a), vI x3, vI x4, vI x5, vI x6, vI x7, vI k, v9, v10, v11], []) (px_sh L, i, l, r, t) = some (some (vI (i 154 a)), (px_sh L, i, l, r, t))
  | 0, k, hk, hm => by
    have e : k = a := by omega
    rw [b221_236 hr _ _ _ _ _ _ _ _ _ _ _ n9 n10 n11 (by omega) (fun _ => by omega), e, if_pos rfl]
  | m + 1, k, hk, hm => by
    rw [b221_236 hr _ _ _ _ _ _ _ _ _ _ _ n9 n10 n11 (by omega) (fun _ => by omega), if_neg (hne k hk (by omega)), ty_w (by omega), tg_221_f hr d i l x1 x3 x4 x5 x6 x7 a n9 n10 n11 ha hne m (k + 1) (by omega) (by omega)]
end TGX
