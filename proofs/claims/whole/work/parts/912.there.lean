/-! there: sets of which the book is so. -/
theorem ty_bit_0 {n k : Nat} (hn : n < 2147483648) (hk : k < 31) : px_and (px_shr (n : Int) (k : Int)) 1 = 0 ↔ ¬ ty_bit (n : Int) (k : Int) = true := by
  have h : n >>> k ≤ n := Nat.shiftRight_le n k
  have h1 := ty_bit_1 hn hk
  rw [← h1, ty_shr_nat hn hk, show (1 : Int) = ((1 : Nat) : Int) from rfl, ty_and_nat (by omega) (by omega), Nat.and_one_is_mod]
  omega
/-- is each of the first n lines so of a set -/
def ty_bk (i : MI) (s : Int) : Nat → Bool
  | 0 => true
  | n + 1 => ty_bk i s n && (ty_bit s (i 124 (281 + 3 * (n : Int))) && decide (ty_place i (i 124 (280 + 3 * (n : Int))) s (i 124 (281 + 3 * (n : Int))) = i 124 (282 + 3 * (n : Int))))
theorem ty_bk_iff (i : MI) (s : Int) : ∀ n : Nat, ty_bk i s n = true ↔ ∀ j : Int, 0 ≤ j → j < n → ty_bit s (i 124 (281 + 3 * j)) = true ∧ ty_place i (i 124 (280 + 3 * j)) s (i 124 (281 + 3 * j)) = i 124 (282 + 3 * j)
  | 0 => ⟨fun _ j j0 j1 => by omega, fun _ => rfl⟩
  | n + 1 => by
    unfold ty_bk
    rw [Bool.and_eq_true, ty_bk_iff i s n, Bool.and_eq_true, decide_eq_true_iff]
    constructor
    · rintro ⟨h1, h2⟩ j j0 j1
      by_cases hj : j = n
      · rw [hj]; exact h2
      · exact h1 j j0 (by omega)
    · intro h
      exact ⟨fun j j0 j1 => h j j0 (by omega), h n (by omega) (by omega)⟩
/-- what is asked of the sets from k on -/
def ty_thr (w : Int) (B : Int → Bool) : Nat → Int → Int → Int → Int → Int → Int
  | 0, _, c, lo, ev, so => if w = 0 then c else if w = 1 then lo else if w = 2 then ev else so
  | n + 1, k, c, lo, ev, so => if B k = true then ty_thr w B n (k + 1) (c + 1) (if c = 0 then k else lo) (if c = 0 then k else px_and ev k) (px_or so k) else ty_thr w B n (k + 1) c lo ev so
theorem ty_and1023 {k : Int} (h : 0 ≤ k ∧ k < 1024) : px_and 1023 k = k := by
  obtain ⟨n, rfl⟩ : ∃ n : Nat, k = (n : Int) := ⟨k.toNat, by omega⟩
  rw [show (1023 : Int) = ((1023 : Nat) : Int) from rfl, ty_and_nat (by omega) (by omega), Nat.and_comm, show 1023 = 2 ^ 10 - 1 from rfl, Nat.and_two_pow_sub_one_eq_mod, Nat.mod_eq_of_lt (by omega)]
section TYY
variable {L t : Nat} {r : MR}
theorem q131 (hr : px_hr r) (d : Nat) (i l : MI) (h : i 4 6 = i 124 4) (h10 : 0 ≤ i 124 4 ∧ i 124 4 ≤ 10) : px_C d 131 [vR 103] (px_sh L, i, l, r, t) = some (some (vI ((2 ^ (i 124 4).toNat : Nat) : Int)), (px_sh L, i, l, r, t)) := by
  have e1 : (if i 4 6 < 10 then i 4 6 else 10) = ((i 124 4).toNat : Int) := by
    rw [h]
    by_cases h2 : i 124 4 < 10
    · rw [if_pos h2]; omega
    · rw [if_neg h2]; omega
  have e2 : (if 0 < ((i 124 4).toNat : Int) then ((i 124 4).toNat : Int) else 0) = ((i 124 4).toNat : Int) := by
    by_cases h2 : 0 < ((i 124 4).toNat : Int)
    · rw [if_pos h2]
    · rw [if_neg h2]; omega
  rw [e131, b131_0 hr, e1, e2, ty_shl_1 _ (by omega)]
theorem ty_two_b {n : Nat} (h : n ≤ 10) : 1 ≤ 2 ^ n ∧ 2 ^ n ≤ 1024 := ⟨Nat.one_le_two_pow, by
  have : 2 ^ n ≤ 2 ^ 10 := Nat.pow_le_pow_right (by omega) h
  omega⟩
theorem ty_sift_n (hr : px_hr r) (d : Nat) (l : MI) (i0 : MI) (m k g : Int) (kn : Nat) (hkn : k = (kn : Int)) (hL0 : ty_LW i0) (hm : m = i0 124 (280 + 3 * k)) (hg : g = i0 124 (281 + 3 * k)) (hg10 : 0 ≤ g ∧ g < 10) (hk : 0 ≤ k ∧ k < 12) (h8 : i0 8 k = i0 124 (282 + 3 * k)) (N : Int) (hN : N = ((2 ^ (i0 124 4).toNat : Nat) : Int)) (hN4 : N ≤ 1024) : ∀ (n : Nat) (i : MI) (s : Int), ty_T2 i m → ty_ch [70, 71, 72, 103, 104, 105, 107, 108, 109] i0 i → 0 ≤ s → s + n = N → (∀ x, 0 ≤ x → x < s → i 109 x = if ty_bk i0 x (kn + 1) = true then 0 else 1) → (∀ x, s ≤ x → x < N → i 109 x = if ty_bk i0 x kn = true then 0 else 1) →
    ∃ (i1 : MI) (x4 : Int), px_X (d + 6) 130 (50, [vR 103, vR 5, vI k, vI g, vI s], []) (px_sh L, i, l, r, t) = px_X (d + 6) 130 (18, [vR 103, vR 5, vI (k + 1), vI g, vI x4], []) (px_sh L, i1, l, r, t) ∧ ty_ch [71, 72, 104, 105, 107, 108, 109] i i1 ∧ ty_T2 i1 m ∧ ∀ x, 0 ≤ x → x < N → i1 109 x = if ty_bk i0 x (kn + 1) = true then 0 else 1
  | 0, i, s, hT, hc, h0, hs, hx, hy => by
    have r124 : i 124 = i0 124 := hc 124 (by decide)
    refine ⟨i, s, ?_, ty_ch_rf, hT, fun x x0 x1 => hx x x0 (by omega)⟩
    rw [b130_50 hr, q131 hr _ _ _ hT.1.2.1.1 hT.1.2.1.2, r124, ← hN, Option.bind_some, px_psh_some, b130_56 hr, if_pos (by omega), ty_w (by omega)]
  | n + 1, i, s, hT, hc, h0, hs, hx, hy => by
    have r124 : i 124 = i0 124 := hc 124 (by decide)
    have r8 : i 8 = i0 8 := hc 8 (by decide)
    have w1 : px_w32 (s + 1) = s + 1 := ty_w (by omega)
    have head : px_X (d + 6) 130 (50, [vR 103, vR 5, vI k, vI g, vI s], []) (px_sh L, i, l, r, t) = px_X (d + 6) 130 (68, [vR 103, vR 5, vI k, vI g, vI s], [vI (i 109 s)]) (px_sh L, i, l, r, t) := by
      rw [b130_50 hr, q131 hr _ _ _ hT.1.2.1.1 hT.1.2.1.2, r124, ← hN, Option.bind_some, px_psh_some, b130_56 hr, if_neg (by omega), q33i hr _ _ _ (px_s109 L) (Nat.le_of_ble_eq_true rfl) _ (by omega), Option.bind_some, px_psh_some]
    have ebk : ty_bk i0 s (kn + 1) = (ty_bk i0 s kn && (ty_bit s g && decide (ty_place i0 m s g = i0 124 (282 + 3 * k)))) := by
      rw [hg, hm, hkn]
      rfl
    have h109 := hy s (by omega) (by omega)
    rw [head, b130_68 hr, w1]
    by_cases hb : ty_bk i0 s kn = true
    · rw [if_pos hb] at h109
      obtain ⟨i1, r1, c1, T1, p1⟩ := q122 (L := L) (t := t) hr d i l m s hT (by omega)
      have cc : ty_ch [70, 71, 72, 103, 104, 105, 107, 108, 109] i0 i1 := ty_ch_tr hc c1 rfl rfl
      have ep : ty_place i m s = ty_place i0 m s := ty_place_ch hL0 hc rfl
      have r8' : i1 8 = i0 8 := cc 8 (by decide)
      have r109 : i1 109 = i 109 := c1 109 (by decide)
      have hbit : (0 ≤ g ∧ g < 31 ∧ ty_bit s g = true) ↔ ty_bit s g = true := ⟨fun h => h.2.2, fun h => ⟨hg10.1, by omega, h⟩⟩
      have out : (ty_bit s g && decide (ty_place i0 m s g = i0 124 (282 + 3 * k))) = false → ∃ (i2 : MI) (x4 : Int), px_X (d + 6) 130 (108, [vR 103, vR 5, vI k, vI g, vI s], []) (px_sh L, i1, l, r, t) = px_X (d + 6) 130 (18, [vR 103, vR 5, vI (k + 1), vI g, vI x4], []) (px_sh L, i2, l, r, t) ∧ ty_ch [71, 72, 104, 105, 107, 108, 109] i i2 ∧ ty_T2 i2 m ∧ ∀ x, 0 ≤ x → x < N → i2 109 x = if ty_bk i0 x (kn + 1) = true then 0 else 1 := fun ho => by
        have cu : ty_ch [109] i1 (px_up i1 109 s 1) := ty_ch_up (by decide)
        obtain ⟨i2, x4, r2, c2, T2, p2⟩ := ty_sift_n hr d l i0 m k g kn hkn hL0 hm hg hg10 hk h8 N hN hN4 n (px_up i1 109 s 1) (s + 1) (ty_T2_ch T1 cu rfl) (ty_ch_tr cc cu rfl rfl) (by omega) (by omega) (fun x x0 x1 => by
          by_cases hxs : x = s
          · rw [hxs, ty_up_eq, ebk, ho, Bool.and_false]
            rfl
          · rw [ty_up_j hxs, r109]
            exact hx x x0 (by omega)) (fun x x0 x1 => by
          rw [ty_up_j (by omega), r109]
          exact hy x (by omega) x1)
        refine ⟨i2, x4, ?_, ty_ch_tr (ty_ch_tr c1 cu (S'' := [71, 72, 104, 105, 107, 108, 109]) rfl rfl) c2 rfl rfl, T2, p2⟩
        rw [b130_108 hr, q34i hr _ _ _ (px_s109 L) (Nat.le_of_ble_eq_true rfl) _ _ (by omega), Option.bind_some, px_psh_none, b130_118 hr, w1, r2]
      rw [h109, if_pos rfl, r1, Option.bind_some, px_psh_none, b130_80 hr, q32 hr _ _ _ _ _ h0 (by omega), Option.bind_some, px_psh_some, b130_86 hr]
      by_cases hbs : ty_bit s g = true
      · rw [px_bi_T (hbit.mpr hbs), if_neg (by omega), q33i hr _ _ _ (px_s105 L) (Nat.le_of_ble_eq_true rfl) _ (by omega), p1 g hg10.1 hg10.2, ep, Option.bind_some, px_psh_some, b130_97 hr, q33i hr _ _ _ (px_s8 L) (Nat.le_of_ble_eq_true rfl) _ (by omega), r8', h8, Option.bind_some, px_psh_some, b130_105 hr, w1]
        by_cases hpl : ty_place i0 m s g = i0 124 (282 + 3 * k)
        · obtain ⟨i2, x4, r2, c2, T2, p2⟩ := ty_sift_n hr d l i0 m k g kn hkn hL0 hm hg hg10 hk h8 N hN hN4 n i1 (s + 1) T1 cc (by omega) (by omega) (fun x x0 x1 => by
            rw [r109]
            by_cases hxs : x = s
            · rw [hxs, h109, ebk, hb, hbs, decide_eq_true hpl]
              rfl
            · exact hx x x0 (by omega)) (fun x x0 x1 => by
            rw [r109]
            exact hy x (by omega) x1)
          refine ⟨i2, x4, ?_, ty_ch_tr c1 c2 rfl rfl, T2, p2⟩
          rw [if_pos hpl, r2]
        · rw [if_neg hpl]
          exact out (by rw [decide_eq_false hpl, Bool.and_false])
      · rw [px_bi_F (fun h => hbs h.2.2), if_pos rfl]
        exact out (by rw [Bool.eq_false_iff.mpr hbs, Bool.false_and])
    · rw [if_neg hb] at h109
      obtain ⟨i2, x4, r2, c2, T2, p2⟩ := ty_sift_n hr d l i0 m k g kn hkn hL0 hm hg hg10 hk h8 N hN hN4 n i (s + 1) hT hc (by omega) (by omega) (fun x x0 x1 => by
        by_cases hxs : x = s
        · rw [hxs, h109, ebk, Bool.eq_false_iff.mpr hb, Bool.false_and]
          rfl
        · exact hx x x0 (by omega)) (fun x x0 x1 => hy x (by omega) x1)
      refine ⟨i2, x4, ?_, c2, T2, p2⟩
      rw [if_neg (by omega), r2]
theorem ty_lines_n (hr : px_hr r) (d : Nat) (l : MI) (i0 : MI) (hQ0 : ty_Q i0) (h5 : i0 5 0 = i0 124 8) (h12 : i0 124 8 ≤ 12) (hl : ty_Hl 0 i0 (i0 124)) (N : Int) (hN : N = ((2 ^ (i0 124 4).toNat : Nat) : Int)) : ∀ (n : Nat) (i : MI) (kn : Nat) (v3 v4 : PV), px_nl v3 → px_nl v4 → ty_Q i → ty_ch [70, 71, 72, 103, 104, 105, 107, 108, 109] i0 i → (kn : Int) + n = i0 124 8 → (0 ≤ i 103 7 ∧ i 103 7 + n < 1900000000) → (∀ x : Int, 0 ≤ x → x < 320 → i 108 x ≤ i 103 7) → (∀ x, 0 ≤ x → x < N → i 109 x = if ty_bk i0 x kn = true then 0 else 1) →
    ∃ i1 : MI, px_X (d + 7) 130 (18, [vR 103, vR 5, vI (kn : Int), v3, v4], []) (px_sh L, i, l, r, t) = some (none, (px_sh L, i1, l, r, t)) ∧ ty_ch [70, 71, 72, 103, 104, 105, 107, 108, 109] i0 i1 ∧ ty_Q i1 ∧ (i 103 7 ≤ i1 103 7 ∧ i1 103 7 ≤ i 103 7 + n) ∧ (∀ x : Int, 0 ≤ x → x < 320 → i1 108 x ≤ i1 103 7) ∧ ∀ x, 0 ≤ x → x < N → i1 109 x = if ty_bk i0 x (kn + n) = true then 0 else 1
  | 0, i, kn, v3, v4, hn3, hn4, hQ, hc, hk, hs, hx, hy => by
    have r5 : i 5 = i0 5 := hc 5 (by decide)
    refine ⟨i, ?_, hc, hQ, by omega, hx, hy⟩
    rw [b130_18 hr _ _ _ _ hn3 hn4, r5, h5, if_pos (by omega)]
  | n + 1, i, kn, v3, v4, hn3, hn4, hQ, hc, hk, hs, hx, hy => by
    have r5 : i 5 = i0 5 := hc 5 (by decide)
    have r6 : i 6 = i0 6 := hc 6 (by decide)
    have r7 : i 7 = i0 7 := hc 7 (by decide)
    have b4 := hQ0.2.1.2
    have hlk := hl (kn : Int) (by omega) (by omega)
    obtain ⟨⟨l1, l2, l3⟩, ⟨l4, l5, l6⟩, l7, l8, l9⟩ := hlk
    have l1' : i0 6 (kn : Int) = i0 124 (280 + 3 * (kn : Int)) := l1
    have l4' : i0 7 (kn : Int) = i0 124 (281 + 3 * (kn : Int)) := l4
    obtain ⟨i1, r1, c1, s1, T1⟩ := q121 (L := L) (t := t) hr d i l (i0 124 (280 + 3 * (kn : Int))) hQ (by omega) (by omega) hx
    have cc : ty_ch [70, 71, 72, 103, 104, 105, 107, 108, 109] i0 i1 := ty_ch_tr hc c1 rfl rfl
    have r109 : i1 109 = i 109 := c1 109 (by decide)
    have hNb : N ≤ 1024 := by
      have := (ty_two_b (n := (i0 124 4).toNat) (by omega)).2
      omega
    have hN1 : 1 ≤ N := by
      have := (ty_two_b (n := (i0 124 4).toNat) (by omega)).1
      omega
    obtain ⟨i2, x4, r2, c2, T2, p2⟩ := ty_sift_n (L := L) (t := t) hr (d + 1) l i0 (i0 124 (280 + 3 * (kn : Int))) (kn : Int) (i0 124 (281 + 3 * (kn : Int))) kn rfl hQ0.1.1 rfl rfl (by omega) (by omega) l7 N hN hNb N.toNat i1 0 T1 cc (by omega) (by omega) (fun x x0 x1 => by omega) (by rw [r109]; exact fun x x0 x1 => hy x x0 x1)
    have c02 : ty_ch [70, 71, 72, 103, 104, 105, 107, 108, 109] i0 i2 := ty_ch_tr cc c2 rfl rfl
    have s2 : i2 103 7 = i 103 7 + 1 := by rw [c2 103 (by decide), s1]
    obtain ⟨i3, r3, c3, Q3, s3, x3, p3⟩ := ty_lines_n hr d l i0 hQ0 h5 h12 hl N hN n i2 (kn + 1) (vI (i0 124 (281 + 3 * (kn : Int)))) (vI x4) (px_nl_I _) (px_nl_I _) T2.1 c02 (by omega) (by omega) T2.2.2.2.2.1 p2
    refine ⟨i3, ?_, c3, Q3, by omega, x3, ?_⟩
    · have hr3 : ((kn + 1 : Nat) : Int) = (kn : Int) + 1 := by omega
      rw [hr3] at r3
      rw [b130_18 hr _ _ _ _ hn3 hn4, r5, h5, if_neg (by omega), q33i hr _ _ _ (px_s7 L) (Nat.le_of_ble_eq_true rfl) _ (by omega), r7, l4', Option.bind_some, px_psh_some, b130_34 hr _ _ _ _ hn3 hn4, q33i hr _ _ _ (px_s6 L) (Nat.le_of_ble_eq_true rfl) _ (by omega), r6, l1', Option.bind_some, px_psh_some, b130_44 hr _ _ _ _ _ hn4, r1, Option.bind_some, px_psh_none, b130_47 hr _ _ _ _ _ hn4, r2, r3]
    · rw [show kn + (n + 1) = kn + 1 + n by omega]
      exact p3
theorem ty_sto_n (hr : px_hr r) (d : Nat) (i l : MI) (w : Int) (hw : 0 ≤ w ∧ w ≤ 3) (B : Int → Bool) (h46 : i 4 6 = i 124 4) (h10 : 0 ≤ i 124 4 ∧ i 124 4 ≤ 10) (N : Int) (hN : N = ((2 ^ (i 124 4).toNat : Nat) : Int)) (hB : ∀ x, 0 ≤ x → x < N → i 109 x = if B x = true then 0 else 1) : ∀ (n : Nat) (k c lo ev so : Int), 0 ≤ k → k + n = N → (0 ≤ c ∧ c ≤ k) → (c = 0 → ev = 0) →
    px_X (d + 1) 132 (15, [vR 103, vI w, vI c, vI lo, vI (if c = 0 then 1023 else ev), vI so, vI k], []) (px_sh L, i, l, r, t) = some (some (vI (ty_thr w B n k c lo ev so)), (px_sh L, i, l, r, t))
  | 0, k, c, lo, ev, so, h0, hk, hc, he => by
    rw [b132_15 hr, q131 hr _ _ _ h46 h10, ← hN, Option.bind_some, px_psh_some, b132_21 hr, if_pos (by omega)]
    unfold ty_thr
    by_cases w0 : w = 0
    · rw [if_pos w0, if_pos w0]
    · rw [if_neg w0, if_neg w0]
      by_cases w1 : w = 1
      · rw [if_pos w1, if_pos w1]
      · rw [if_neg w1, if_neg w1]
        by_cases w2 : w = 2
        · rw [if_pos w2, if_pos w2]
          by_cases c0 : c = 0
          · rw [if_pos c0, he c0]
          · rw [if_neg c0, if_neg c0]
        · rw [if_neg w2, if_neg w2]
  | n + 1, k, c, lo, ev, so, h0, hk, hc, he => by
    have hNb : N ≤ 1024 := by
      have := (ty_two_b (n := (i 124 4).toNat) (by omega)).2
      omega
    have w1 : px_w32 (k + 1) = k + 1 := ty_w (by omega)
    have w2 : px_w32 (c + 1) = c + 1 := ty_w (by omega)
    have hBk := hB k h0 (by omega)
    rw [b132_15 hr, q131 hr _ _ _ h46 h10, ← hN, Option.bind_some, px_psh_some, b132_21 hr, if_neg (by omega), q33i hr _ _ _ (px_s109 L) (Nat.le_of_ble_eq_true rfl) _ (by omega), hBk, Option.bind_some, px_psh_some, b132_33 hr, w1]
    unfold ty_thr
    by_cases hb : B k = true
    · rw [if_pos hb, if_pos rfl, if_pos hb]
      by_cases c0 : c = 0
      · rw [if_pos c0, if_pos c0, b132_46 hr, w1, w2, if_pos c0, if_pos c0, ty_and1023 (by omega)]
        have := ty_sto_n hr d i l w hw B h46 h10 N hN hB n (k + 1) (c + 1) k k (px_or so k) (by omega) (by omega) (by omega) (by omega)
        rw [if_neg (by omega)] at this
        exact this
      · rw [if_neg c0, if_neg c0, b132_46 hr, w1, w2, if_neg c0, if_neg c0]
        have := ty_sto_n hr d i l w hw B h46 h10 N hN hB n (k + 1) (c + 1) lo (px_and ev k) (px_or so k) (by omega) (by omega) (by omega) (by omega)
        rw [if_neg (by omega)] at this
        exact this
    · rw [if_neg hb, if_neg (by omega), if_neg hb]
      exact ty_sto_n hr d i l w hw B h46 h10 N hN hB n (k + 1) c lo ev so (by omega) (by omega) (by omega) he
/-! The reference's isBook (229), there (230). -/
theorem ty_isb_n (hr : px_hr r) (d : Nat) (i l : MI) (s : Int) (hs : 0 ≤ s ∧ s < 1024) (h12 : i 124 8 ≤ 12) (hg : ∀ j : Int, 0 ≤ j → j < i 124 8 → 0 ≤ i 124 (281 + 3 * j) ∧ i 124 (281 + 3 * j) < 10) : ∀ (n : Nat) (k : Int) (v3 : PV), px_nl v3 → 0 ≤ k → k + n = i 124 8 →
    ((∀ j, k ≤ j → j < i 124 8 → ty_bit s (i 124 (281 + 3 * j)) = true) ∧ ∃ v, px_nl v ∧ px_X d 229 (2, [vR 123, vI s, vI k, v3], []) (px_sh L, i, l, r, t) = px_X d 229 (46, [vR 123, vI s, vI 0, v], []) (px_sh L, i, l, r, t)) ∨
    ((∃ j, k ≤ j ∧ j < i 124 8 ∧ ¬ ty_bit s (i 124 (281 + 3 * j)) = true) ∧ px_X d 229 (2, [vR 123, vI s, vI k, v3], []) (px_sh L, i, l, r, t) = some (some (vI 0), (px_sh L, i, l, r, t)))
  | 0, k, v3, hn3, h0, hk => by
    refine Or.inl ⟨fun j j0 j1 => by omega, v3, hn3, ?_⟩
    rw [b229_2 hr _ _ _ _ _ hn3 (fun h => absurd (by omega) h), if_pos (by omega)]
  | n + 1, k, v3, hn3, h0, hk => by
    have hgk := hg k h0 (by omega)
    have w1 : px_w32 (k + 1) = k + 1 := ty_w (by omega)
    have w2 : px_w32 (3 * k) = 3 * k := ty_w (by omega)
    have w3 : px_w32 (280 + 3 * k) = 280 + 3 * k := ty_w (by omega)
    have w4 : px_w32 (280 + 3 * k + 1) = 281 + 3 * k := by rw [ty_w (by omega)]; omega
    have hb := b229_2 (L := L) (t := t) hr d i l s k hn3
    rw [w1, w2, w3, w4] at hb
    have hb := hb (by omega)
    rw [if_neg (by omega)] at hb
    have hbit := ty_bit_0 (n := s.toNat) (k := (i 124 (281 + 3 * k)).toNat) (by omega) (by omega)
    rw [Int.toNat_of_nonneg hs.1, Int.toNat_of_nonneg hgk.1] at hbit
    by_cases h : px_and (px_shr s (i 124 (281 + 3 * k))) 1 = 0
    · refine Or.inr ⟨⟨k, by omega, by omega, hbit.mp h⟩, ?_⟩
      rw [hb, if_pos h]
    · have hbk : ty_bit s (i 124 (281 + 3 * k)) = true := by
        by_cases h2 : ty_bit s (i 124 (281 + 3 * k)) = true
        · exact h2
        · exact absurd (hbit.mpr h2) h
      rw [hb, if_neg h]
      rcases ty_isb_n hr d i l s hs h12 hg n (k + 1) (vI (i 124 (281 + 3 * k))) (px_nl_I _) (by omega) (by omega) with ⟨h1, h2⟩ | ⟨⟨j, j0, j1, j2⟩, h2⟩
      · refine Or.inl ⟨fun j j0 j1 => ?_, h2⟩
        by_cases hj : j = k
        · rw [hj]; exact hbk
        · exact h1 j (by omega) j1
      · exact Or.inr ⟨⟨j, by omega, j1, j2⟩, h2⟩
theorem ty_isc_n (hr : px_hr r) (d : Nat) (i0 : MI) (s : Int) (hs : 0 ≤ s ∧ s < 1024) (hQ0 : ty_Q i0) (h12 : i0 124 8 ≤ 12) (hl : ty_Hl 0 i0 (i0 124)) (hbits : ∀ j, 0 ≤ j → j < i0 124 8 → ty_bit s (i0 124 (281 + 3 * j)) = true) : ∀ (n : Nat) (i l : MI) (k : Int) (v3 : PV), px_nl v3 → ty_ch [140, 142, 143, 144] i0 i → 0 ≤ k → k + n = i0 124 8 → (∀ j, 0 ≤ j → j < k → ty_place i0 (i0 124 (280 + 3 * j)) s (i0 124 (281 + 3 * j)) = i0 124 (282 + 3 * j)) →
    ∃ i1 l1 : MI, px_X (d + 6) 229 (46, [vR 123, vI s, vI k, v3], []) (px_sh L, i, l, r, t) = some (some (vI (if ty_bk i0 s (i0 124 8).toNat = true then 1 else 0)), (px_sh L, i1, l1, r, t)) ∧ ty_ch [140, 142, 143, 144] i0 i1 ∧ ty_ch [141] l l1
  | 0, i, l, k, v3, hn3, hc, h0, hk, hx => by
    have r124 : i 124 = i0 124 := hc 124 (by decide)
    refine ⟨i, l, ?_, hc, ty_ch_rf⟩
    have hb : ty_bk i0 s (i0 124 8).toNat = true := (ty_bk_iff i0 s _).mpr (fun j j0 j1 => ⟨hbits j j0 (by omega), hx j j0 (by omega)⟩)
    rw [b229_46 hr _ _ _ _ _ hn3 (fun h => absurd (by rw [r124]; omega) h), r124, if_pos (by omega), hb]
    rfl
  | n + 1, i, l, k, v3, hn3, hc, h0, hk, hx => by
    have r124 : i 124 = i0 124 := hc 124 (by decide)
    have b4 := hQ0.2.1.2
    have b3 := hQ0.2.2.1.2
    obtain ⟨⟨-, l2, l3⟩, ⟨-, l5, l6⟩, -, l8, l9⟩ := hl k h0 (by omega)
    have w1 : px_w32 (k + 1) = k + 1 := ty_w (by omega)
    have w2 : px_w32 (3 * k) = 3 * k := ty_w (by omega)
    have w3 : px_w32 (280 + 3 * k) = 280 + 3 * k := ty_w (by omega)
    have w4 : px_w32 (280 + 3 * k + 1) = 281 + 3 * k := by rw [ty_w (by omega)]; omega
    have w5 : px_w32 (280 + 3 * k + 2) = 282 + 3 * k := by rw [ty_w (by omega)]; omega
    have hQ : ty_Q i := ty_Q_ch hQ0 hc rfl
    obtain ⟨i1, l1, r1, c1, c1l, p1⟩ := q197 (L := L) (t := t) hr d i l (i0 124 (280 + 3 * k)) s hQ (by omega) hs
    have cc : ty_ch [140, 142, 143, 144] i0 i1 := ty_ch_tr hc c1 rfl rfl
    have t124 : i1 124 = i0 124 := cc 124 (by decide)
    have ep : ty_place i (i0 124 (280 + 3 * k)) s = ty_place i0 (i0 124 (280 + 3 * k)) s := ty_place_ch hQ0.1.1 hc rfl
    have hp := p1 (i0 124 (281 + 3 * k)) l5 (by omega)
    rw [r124, if_pos ⟨l6, hbits k h0 (by omega)⟩, ep] at hp
    have hb := b229_46 (L := L) (t := t) hr (d + 5) i l s k hn3
    rw [w2, w3, r124] at hb
    have hb2 := b229_74 (L := L) (t := t) hr (d + 6) i1 l1 s k hn3
    rw [w2, w3, w4, w5, w1, t124] at hb2
    have hb2 := hb2 (by omega) (by omega) (by omega)
    rw [hb (by omega), if_neg (by omega), r1, Option.bind_some, px_psh_none, hb2, hp]
    by_cases hpl : ty_place i0 (i0 124 (280 + 3 * k)) s (i0 124 (281 + 3 * k)) = i0 124 (282 + 3 * k)
    · obtain ⟨i2, l2, r2, c2, c2l⟩ := ty_isc_n hr d i0 s hs hQ0 h12 hl hbits n i1 l1 (k + 1) v3 hn3 cc (by omega) (by omega) (fun j j0 j1 => by
        by_cases hj : j = k
        · rw [hj]; exact hpl
        · exact hx j j0 (by omega))
      exact ⟨i2, l2, by rw [if_pos hpl, r2], c2, ty_ch_tr c1l c2l rfl rfl⟩
    · refine ⟨i1, l1, ?_, cc, c1l⟩
      have hb : ¬ ty_bk i0 s (i0 124 8).toNat = true := fun h => hpl (((ty_bk_iff i0 s _).mp h k h0 (by omega)).2)
      rw [if_neg hpl, if_neg hb]
/-- isBook -/
theorem q229 (hr : px_hr r) (d : Nat) (i l : MI) (s : Int) (hs : 0 ≤ s ∧ s < 1024) (hQ : ty_Q i) (h12 : 0 ≤ i 124 8 ∧ i 124 8 ≤ 12) (hl : ty_Hl 0 i (i 124)) :
    ∃ i1 l1 : MI, px_C (d + 6) 229 [vR 123, vI s] (px_sh L, i, l, r, t) = some (some (vI (if ty_bk i s (i 124 8).toNat = true then 1 else 0)), (px_sh L, i1, l1, r, t)) ∧ ty_ch [140, 142, 143, 144] i i1 ∧ ty_ch [141] l l1 := by
  have b4 := hQ.2.1.2
  rw [e229, b229_0 hr]
  rcases ty_isb_n (L := L) (t := t) hr (d + 6) i l s hs h12.2 (fun j j0 j1 => by
    obtain ⟨-, ⟨-, l5, l6⟩, -⟩ := hl j j0 j1
    omega) (i 124 8).toNat 0 vJ px_nl_J (by omega) (by omega) with ⟨h1, v, hv, h2⟩ | ⟨⟨j, j0, j1, j2⟩, h2⟩
  · obtain ⟨i1, l1, r1, c1, c1l⟩ := ty_isc_n (L := L) (t := t) hr d i s hs hQ h12.2 hl h1 (i 124 8).toNat i l 0 v hv ty_ch_rf (by omega) (by omega) (fun j j0 j1 => by omega)
    exact ⟨i1, l1, by rw [h2, r1], c1, c1l⟩
  · refine ⟨i, l, ?_, ty_ch_rf, ty_ch_rf⟩
    have hb : ¬ ty_bk i s (i 124 8).toNat = true := fun h => j2 (((ty_bk_iff i s _).mp h j j0 (by omega)).1)
    rw [h2, if_neg hb]
theorem ty_thr_n (hr : px_hr r) (d : Nat) (i0 : MI) (w : Int) (hw : 0 ≤ w ∧ w ≤ 3) (hQ0 : ty_Q i0) (h12 : 0 ≤ i0 124 8 ∧ i0 124 8 ≤ 12) (hl : ty_Hl 0 i0 (i0 124)) (N : Int) (hN : N = ((2 ^ (i0 124 4).toNat : Nat) : Int)) : ∀ (n : Nat) (i l : MI) (k c lo ev so : Int), ty_ch [140, 142, 143, 144] i0 i → 0 ≤ k → k + n = N → (0 ≤ c ∧ c ≤ k) →
    ∃ i1 l1 : MI, px_X (d + 7) 230 (24, [vR 123, vI w, vI c, vI lo, vI ev, vI so, vI k], []) (px_sh L, i, l, r, t) = some (some (vI (ty_thr w (fun s => ty_bk i0 s (i0 124 8).toNat) n k c lo ev so)), (px_sh L, i1, l1, r, t)) ∧ ty_ch [140, 142, 143, 144] i0 i1 ∧ ty_ch [141] l l1
  | 0, i, l, k, c, lo, ev, so, hc, h0, hk, hcc => by
    have r124 : i 124 = i0 124 := hc 124 (by decide)
    have b4 := hQ0.2.1.2
    have es : px_shl 1 (i0 124 4) = N := by
      rw [hN, ← ty_shl_1 _ (by omega), Int.toNat_of_nonneg b4.1]
    refine ⟨i, l, ?_, hc, ty_ch_rf⟩
    rw [b230_24 hr, r124, es, if_pos (by omega)]
    unfold ty_thr
    by_cases w0 : w = 0
    · rw [if_pos w0, if_pos w0]
    · rw [if_neg w0, if_neg w0]
      by_cases w1 : w = 1
      · rw [if_pos w1, if_pos w1]
      · rw [if_neg w1, if_neg w1]
        by_cases w2 : w = 2
        · rw [if_pos w2, if_pos w2]
        · rw [if_neg w2, if_neg w2]
  | n + 1, i, l, k, c, lo, ev, so, hc, h0, hk, hcc => by
    have r124 : i 124 = i0 124 := hc 124 (by decide)
    have b4 := hQ0.2.1.2
    have hNb : N ≤ 1024 := by
      have := (ty_two_b (n := (i0 124 4).toNat) (by omega)).2
      omega
    have es : px_shl 1 (i0 124 4) = N := by
      rw [hN, ← ty_shl_1 _ (by omega), Int.toNat_of_nonneg b4.1]
    have w1 : px_w32 (k + 1) = k + 1 := ty_w (by omega)
    have w2 : px_w32 (c + 1) = c + 1 := ty_w (by omega)
    have hQ : ty_Q i := ty_Q_ch hQ0 hc rfl
    have hl' : ty_Hl 0 i (i 124) := ty_Hl_c (hc 6 (by decide)) (hc 7 (by decide)) (hc 8 (by decide)) h12.2 (by rw [r124]; omega) (by rw [r124]; omega) (fun x _ => by rw [r124]) hl
    obtain ⟨i1, l1, r1, c1, c1l⟩ := q229 (L := L) (t := t) hr d i l k (by omega) hQ (by rw [r124]; exact h12) hl'
    have ebk : ty_bk i k (i 124 8).toNat = ty_bk i0 k (i0 124 8).toNat := by
      rw [r124]
      have h1 := ty_bk_iff i k (i0 124 8).toNat
      have h2 := ty_bk_iff i0 k (i0 124 8).toNat
      rw [r124] at h1
      have h3 : (∀ j : Int, 0 ≤ j → j < ((i0 124 8).toNat : Int) → ty_bit k (i0 124 (281 + 3 * j)) = true ∧ ty_place i (i0 124 (280 + 3 * j)) k (i0 124 (281 + 3 * j)) = i0 124 (282 + 3 * j)) ↔ (∀ j : Int, 0 ≤ j → j < ((i0 124 8).toNat : Int) → ty_bit k (i0 124 (281 + 3 * j)) = true ∧ ty_place i0 (i0 124 (280 + 3 * j)) k (i0 124 (281 + 3 * j)) = i0 124 (282 + 3 * j)) := by
        constructor
        · intro h j j0 j1
          rw [← ty_place_ch hQ0.1.1 hc rfl]
          exact h j j0 j1
        · intro h j j0 j1
          rw [ty_place_ch hQ0.1.1 hc rfl]
          exact h j j0 j1
      exact Bool.eq_iff_iff.mpr (h1.trans (h3.trans h2.symm))
    have cc : ty_ch [140, 142, 143, 144] i0 i1 := ty_ch_tr hc c1 rfl rfl
    have rest : ∀ c' lo' ev' so', (0 ≤ c' ∧ c' ≤ k + 1) → ∃ i2 l2 : MI, px_X (d + 7) 230 (24, [vR 123, vI w, vI c', vI lo', vI ev', vI so', vI (k + 1)], []) (px_sh L, i1, l1, r, t) = some (some (vI (ty_thr w (fun s => ty_bk i0 s (i0 124 8).toNat) n (k + 1) c' lo' ev' so')), (px_sh L, i2, l2, r, t)) ∧ ty_ch [140, 142, 143, 144] i0 i2 ∧ ty_ch [141] l l2 := fun c' lo' ev' so' h => by
      obtain ⟨i2, l2, r2, c2, c2l⟩ := ty_thr_n hr d i0 w hw hQ0 h12 hl N hN n i1 l1 (k + 1) c' lo' ev' so' cc (by omega) (by omega) h
      exact ⟨i2, l2, r2, c2, ty_ch_tr c1l c2l rfl rfl⟩
    rw [b230_24 hr, r124, es, if_neg (by omega), r1, ebk, Option.bind_some, px_psh_some, b230_43 hr, w1]
    unfold ty_thr
    by_cases hb : ty_bk i0 k (i0 124 8).toNat = true
    · rw [if_pos hb, if_neg (by omega), if_pos hb]
      by_cases c0 : c = 0
      · rw [if_pos c0, b230_56 hr, if_pos c0, b230_71 hr, w1, w2, if_pos c0, if_pos c0]
        exact rest _ _ _ _ (by omega)
      · rw [if_neg c0, b230_56 hr, if_neg c0, b230_71 hr, w1, w2, if_neg c0, if_neg c0]
        exact rest _ _ _ _ (by omega)
    · rw [if_neg hb, if_pos rfl, if_neg hb]
      exact rest _ _ _ _ (by omega)
end TYY
/-- there -/
theorem ok_there (a : Int) : ty_ok ty_CR 25 230 [vI a] := by
  intro L t r hr n d i l hn hc
  have hc' := ty_CR_mono hc
  have hQ := ty_Q_CR hc
  have hY := hc.2.2.2.2
  have h0 := hc.2.1
  have hl := h0.2.2.2.2.2.2.1
  have b8 := h0.2.1.2.2.2.2.2.2.2
  have e50 : i 5 0 = i 124 8 := b8.1
  have b4 := hQ.2.1
  show ∃ (v : Int) (i1 l1 i2 l2 : MI), px_C (d + 31 + 8 + 1) 25 [vR 3, vI a] _ = _ ∧ px_C (d + 31 + 8 + 1) 230 [vR 123, vI a] _ = _ ∧ _
  by_cases ha : 0 ≤ a ∧ a ≤ 3
  · obtain ⟨N, hN⟩ : ∃ N : Int, N = ((2 ^ (i 124 4).toNat : Nat) : Int) := ⟨_, rfl⟩
    have hNb := ty_two_b (n := (i 124 4).toNat) (by omega)
    have hs := hY.2.2.2.1
    obtain ⟨j, hj⟩ : ∃ j : MI, j = px_un i 109 (fun x => if 0 ≤ x ∧ x < ((1024 : Nat) : Int) then 0 else i 109 x) := ⟨_, rfl⟩
    have cj : ty_ch [109] i j := by
      rw [hj]
      exact ty_ch_un (by decide)
    have hQj : ty_Q j := ty_Q_ch hQ cj rfl
    obtain ⟨i1, r1, c1, Q1, s1, x1, p1⟩ := ty_lines_n (L := L) (t := t) hr (d + 32) l i hQ e50 b8.2.2 hl N hN (i 124 8).toNat j 0 vJ vJ px_nl_J px_nl_J hQj (ty_ch_w cj rfl) (by omega) (by rw [cj 103 (by decide)]; omega) (by rw [cj 103 (by decide), cj 108 (by decide)]; exact hY.2.2.2.2) (fun x x0 x1 => by
      rw [hj, ty_un_eq, if_pos (by omega)]
      rfl)
    rw [Nat.zero_add] at p1
    have f124 : i1 124 = i 124 := c1 124 (by decide)
    have h2 := ty_sto_n (L := L) (t := t) hr (d + 31 + 7) i1 l a ha (fun s => ty_bk i s (i 124 8).toNat) Q1.2.1.1 Q1.2.1.2 N (by rw [f124]; exact hN) p1 N.toNat 0 0 0 0 0 (by omega) (by omega) (by omega) (fun _ => rfl)
    have hl1 : ty_Hl 0 i1 (i1 124) := ty_Hl_c (c1 6 (by decide)) (c1 7 (by decide)) (c1 8 (by decide)) b8.2.2 (by rw [f124]; omega) (by rw [f124]; omega) (fun x _ => by rw [f124]) hl
    obtain ⟨i2, l2, r3, c3, c3l⟩ := ty_thr_n (L := L) (t := t) hr (d + 33) i1 a ha Q1 (by rw [f124]; exact b8.2) hl1 N (by rw [f124]; exact hN) N.toNat i1 l 0 0 0 0 0 ty_ch_rf (by omega) (by omega) (by omega)
    have eB : (fun s => ty_bk i1 s (i1 124 8).toNat) = (fun s => ty_bk i s (i 124 8).toNat) := by
      funext s
      rw [f124]
      have g1 := ty_bk_iff i1 s (i 124 8).toNat
      have g2 := ty_bk_iff i s (i 124 8).toNat
      rw [f124] at g1
      have g3 : (∀ j : Int, 0 ≤ j → j < ((i 124 8).toNat : Int) → ty_bit s (i 124 (281 + 3 * j)) = true ∧ ty_place i1 (i 124 (280 + 3 * j)) s (i 124 (281 + 3 * j)) = i 124 (282 + 3 * j)) ↔ (∀ j : Int, 0 ≤ j → j < ((i 124 8).toNat : Int) → ty_bit s (i 124 (281 + 3 * j)) = true ∧ ty_place i (i 124 (280 + 3 * j)) s (i 124 (281 + 3 * j)) = i 124 (282 + 3 * j)) := by
        constructor
        · intro h j j0 j1
          rw [← ty_place_ch hQ.1.1 c1 rfl]
          exact h j j0 j1
        · intro h j j0 j1
          rw [ty_place_ch hQ.1.1 c1 rfl]
          exact h j j0 j1
      exact Bool.eq_iff_iff.mpr (g1.trans (g3.trans g2.symm))
    rw [eB] at r3
    have c12 : ty_ch [70, 71, 72, 103, 104, 105, 107, 108, 109, 140, 142, 143, 144] i i2 := ty_ch_tr c1 c3 rfl rfl
    have Q2 : ty_Q i2 := ty_Q_ch Q1 c3 rfl
    have e103 : i2 103 = i1 103 := c3 103 (by decide)
    have ej : j 103 = i 103 := cj 103 (by decide)
    refine ⟨ty_thr a (fun s => ty_bk i s (i 124 8).toNat) N.toNat 0 0 0 0 0, i1, l, i2, l2, ?_, ?_, ty_CR_same hc (ty_same_ch c12 rfl) (c3l 19 (by decide)) (c3l 46 (by decide)) Q2.1.2.1 ?_ (fun x x0 x2 => ?_), c1 0 (by decide), c12 0 (by decide)⟩
    · have r1' : px_X (d + 31 + 8) 130 (18, [vR 103, vR 5, vI 0, vJ, vJ], []) (px_sh L, j, l, r, t) = some (none, (px_sh L, i1, l, r, t)) := r1
      have h2' : px_X (d + 31 + 8) 132 (15, [vR 103, vI a, vI 0, vI 0, vI 1023, vI 0, vI 0], []) (px_sh L, i1, l, r, t) = _ := h2
      rw [e25, b25_0 hr, q30 hr, Option.bind_some, px_psh_some, b25_6 hr, px_bi_T ha, if_neg (by omega), e130, b130_0 hr, q241 hr _ _ _ (px_s109 L) (Nat.le_of_ble_eq_true rfl) (by omega), ← hj, Option.bind_some, px_psh_none, b130_16 hr, r1', Option.bind_some, px_psh_none, b25_18 hr, e132, b132_0 hr, h2', Option.bind_some, px_psh_some, b25_26 hr]
    · rw [e230, b230_0 hr, q141 hr, Option.bind_some, px_psh_some, b230_6 hr, px_bi_T ha, if_neg (by omega), r3]
    · rw [e103]
      rw [ej] at s1
      omega
    · rw [e103, c3 108 (by decide)]
      exact x1 x x0 x2
  · refine ⟨-1, i, l, i, l, ?_, ?_, hc', rfl, rfl⟩
    · rw [e25, b25_0 hr, q30 hr, Option.bind_some, px_psh_some, b25_6 hr, px_bi_F ha, if_pos rfl]
    · rw [e230, b230_0 hr, q141 hr, Option.bind_some, px_psh_some, b230_6 hr, px_bi_F ha, if_pos rfl]
