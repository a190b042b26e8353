/-! How many quarrel: the class's (128), the reference's (201). -/
def tn_cn (f : Int → Bool) : Nat → Int → Int
  | 0, _ => 0
  | n + 1, b => (if f b = true then 1 else 0) + tn_cn f n (b + 1)
def tn_cc (f : Int → Int → Bool) (G : Int) : Nat → Int → Int
  | 0, _ => 0
  | n + 1, a => tn_cn (f a) (G - (a + 1)).toNat (a + 1) + tn_cc f G n (a + 1)
theorem tn_cn_b {f : Int → Bool} : ∀ (n : Nat) (b : Int), 0 ≤ tn_cn f n b ∧ tn_cn f n b ≤ n
  | 0, b => ⟨Int.le_refl 0, Int.le_refl 0⟩
  | n + 1, b => by
    have := tn_cn_b (f := f) n (b + 1)
    unfold tn_cn
    split <;> omega
theorem tn_cn_0 {f : Int → Bool} : ∀ (n : Nat) (b : Int), (∀ x, b ≤ x → x < b + n → f x = false) → tn_cn f n b = 0
  | 0, _, _ => rfl
  | n + 1, b, h => by
    unfold tn_cn
    rw [h b (by omega) (by omega), tn_cn_0 n (b + 1) (fun x x0 x1 => h x (by omega) (by omega))]
    rfl
theorem tn_cn_c {f f' : Int → Bool} : ∀ (n : Nat) (b : Int), (∀ x, b ≤ x → x < b + n → f' x = f x) → tn_cn f' n b = tn_cn f n b
  | 0, _, _ => rfl
  | n + 1, b, h => by
    unfold tn_cn
    rw [h b (by omega) (by omega), tn_cn_c n (b + 1) (fun x x0 x1 => h x (by omega) (by omega))]
theorem tn_cc_c {f f' : Int → Int → Bool} {G : Int} : ∀ (n : Nat) (a : Int), (∀ x y, a ≤ x → x < y → y < G → f' x y = f x y) → tn_cc f' G n a = tn_cc f G n a
  | 0, _, _ => rfl
  | n + 1, a, h => by
    unfold tn_cc
    rw [tn_cn_c (f := f a) (f' := f' a) _ _ (fun y y0 y1 => h a y (by omega) (by omega) (by omega)), tn_cc_c n (a + 1) (fun x y x0 xy y1 => h x y (by omega) xy y1)]
def tn_tri : Nat → Int
  | 0 => 0
  | n + 1 => (n : Int) + tn_tri n
theorem tn_cc_b {f : Int → Int → Bool} {G : Int} : ∀ (n : Nat) (a : Int), a + n = G → 0 ≤ tn_cc f G n a ∧ tn_cc f G n a ≤ tn_tri n
  | 0, a, _ => ⟨Int.le_refl 0, Int.le_refl 0⟩
  | n + 1, a, h => by
    have h1 := tn_cc_b (f := f) (G := G) n (a + 1) (by omega)
    have h2 := tn_cn_b (f := f a) (G - (a + 1)).toNat (a + 1)
    unfold tn_cc tn_tri
    omega
theorem tn_tri_b {n : Nat} (h : n ≤ 10) : tn_tri n ≤ 45 := by
  have : ∀ k : Fin 11, tn_tri k.val ≤ 45 := by decide
  exact this ⟨n, by omega⟩
theorem tn_cc_45 {f : Int → Int → Bool} {G : Int} (h : 0 ≤ G ∧ G ≤ 10) : 0 ≤ tn_cc f G G.toNat 0 ∧ tn_cc f G G.toNat 0 ≤ 45 := by
  have h1 := tn_cc_b (f := f) (G := G) G.toNat 0 (by omega)
  have h2 := tn_tri_b (n := G.toNat) (by omega)
  omega
/-- do two quarrel -/
def tn_f (i : MI) (m S : Int) (PL : Int → Int) (a b : Int) : Bool := (decide (ty_bit S a = true ∧ ¬ PL a = -1) && decide (ty_bit S b = true ∧ PL b = PL a)) && (tn_qu i m a b || tn_qu i m b a)
section TNC
variable {L t : Nat} {r : MR}
theorem tn_128_b (hr : px_hr r) (d : Nat) (l : MI) (i0 : MI) (m S x3 : Int) (hS : 0 ≤ S ∧ S < 1024) (hQ0 : ty_Q i0) (ha : ty_bit S x3 = true ∧ ¬ i0 105 x3 = -1) (h3 : 0 ≤ x3) : ∀ (n : Nat) (i : MI) (b x2 : Int) (v5 : PV), px_nl v5 → ty_ch [71, 72] i0 i → ty_T2 i m → x3 < b → b + n = i0 124 4 → 0 ≤ x2 → x2 + n ≤ 1000 →
    ∃ (i1 : MI) (v5' : PV), px_X (d + 2 + 1) 128 (43, [vR 103, vI S, vI x2, vI x3, vI b, v5], []) (px_sh L, i, l, r, t) = px_X (d + 2 + 1) 128 (4, [vR 103, vI S, vI (x2 + tn_cn (tn_f i0 m S (i0 105) x3) n b), vI (x3 + 1), vI (i0 124 4), v5'], []) (px_sh L, i1, l, r, t) ∧ px_nl v5' ∧ ty_ch [71, 72] i0 i1 ∧ ty_T2 i1 m
  | 0, i, b, x2, v5, hn5, hc, hT, hb, hn, h20, h21 => by
    have b4 := hQ0.2.1
    have e4 : i 4 6 = i0 124 4 := by rw [hc 4 (by decide)]; exact b4.1
    refine ⟨i, v5, ?_, hn5, hc, hT⟩
    rw [b128_43 hr _ _ _ _ _ _ _ hn5, if_pos (by omega), ty_w (x := x3 + 1) (by omega), show b = i0 124 4 by omega]
    show _ = px_X (d + 2 + 1) 128 (4, [vR 103, vI S, vI (x2 + 0), vI (x3 + 1), vI (i0 124 4), v5], []) (px_sh L, i, l, r, t)
    rw [Int.add_zero]
  | n + 1, i, b, x2, v5, hn5, hc, hT, hb, hn, h20, h21 => by
    have b4 := hQ0.2.1
    have e4 : i 4 6 = i0 124 4 := by rw [hc 4 (by decide)]; exact b4.1
    have e124 : i 124 = i0 124 := hc 124 (by decide)
    have e105 : i 105 = i0 105 := hc 105 (by decide)
    have wb : px_w32 (b + 1) = b + 1 := ty_w (by omega)
    have w2 : px_w32 (x2 + 1) = x2 + 1 := ty_w (by omega)
    have hgo : ∀ (i2 : MI) (u : PV), px_nl u → ty_ch [71, 72] i0 i2 → ty_T2 i2 m → ∀ y : Bool, tn_f i0 m S (i0 105) x3 b = y →
        px_X (d + 2 + 1) 128 (43, [vR 103, vI S, vI x2, vI x3, vI b, v5], []) (px_sh L, i, l, r, t) = px_X (d + 2 + 1) 128 (43, [vR 103, vI S, vI (x2 + ty_b y), vI x3, vI (b + 1), u], []) (px_sh L, i2, l, r, t) →
        ∃ (i1 : MI) (v5' : PV), px_X (d + 2 + 1) 128 (43, [vR 103, vI S, vI x2, vI x3, vI b, v5], []) (px_sh L, i, l, r, t) = px_X (d + 2 + 1) 128 (4, [vR 103, vI S, vI (x2 + tn_cn (tn_f i0 m S (i0 105) x3) (n + 1) b), vI (x3 + 1), vI (i0 124 4), v5'], []) (px_sh L, i1, l, r, t) ∧ px_nl v5' ∧ ty_ch [71, 72] i0 i1 ∧ ty_T2 i1 m := fun i2 u hu c2 T2 y hy hx => by
      have hyb : 0 ≤ ty_b y ∧ ty_b y ≤ 1 := by cases y <;> exact ⟨by decide, by decide⟩
      obtain ⟨i1, v5', r1, k5, c1, T1⟩ := tn_128_b hr d l i0 m S x3 hS hQ0 ha h3 n i2 (b + 1) (x2 + ty_b y) u hu c2 T2 (by omega) (by omega) (by omega) (by omega)
      refine ⟨i1, v5', ?_, k5, c1, T1⟩
      have e : x2 + tn_cn (tn_f i0 m S (i0 105) x3) (n + 1) b = x2 + ty_b y + tn_cn (tn_f i0 m S (i0 105) x3) n (b + 1) := by
        show x2 + ((if tn_f i0 m S (i0 105) x3 b = true then 1 else 0) + tn_cn (tn_f i0 m S (i0 105) x3) n (b + 1)) = _
        rw [hy]
        cases y
        · rw [if_neg (by decide)]
          show x2 + (0 + _) = x2 + 0 + _
          omega
        · rw [if_pos rfl]
          show x2 + (1 + _) = x2 + 1 + _
          omega
      rw [hx, r1, e]
    have e43 : px_X (d + 2 + 1) 128 (43, [vR 103, vI S, vI x2, vI x3, vI b, v5], []) (px_sh L, i, l, r, t) = px_X (d + 2 + 1) 128 (61, [vR 103, vI S, vI x2, vI x3, vI b, v5], [vI (px_bi (0 ≤ b ∧ b < 31 ∧ ty_bit S b = true))]) (px_sh L, i, l, r, t) := by
      rw [b128_43 hr _ _ _ _ _ _ _ hn5, if_neg (by omega), q32 hr _ _ _ _ _ hS.1 (by omega), Option.bind_some, px_psh_some]
    have no : px_X (d + 2 + 1) 128 (88, [vR 103, vI S, vI x2, vI x3, vI b, v5], []) (px_sh L, i, l, r, t) = px_X (d + 2 + 1) 128 (43, [vR 103, vI S, vI (x2 + ty_b false), vI x3, vI (b + 1), vI 0], []) (px_sh L, i, l, r, t) := by
      rw [b128_88 hr _ _ _ _ _ _ _ hn5, b128_89 hr _ _ _ _ _ _ _ hn5, if_pos rfl, wb]
      show _ = px_X (d + 2 + 1) 128 (43, [vR 103, vI S, vI (x2 + 0), vI x3, vI (b + 1), vI 0], []) (px_sh L, i, l, r, t)
      rw [Int.add_zero]
    by_cases hbit : ty_bit S b = true
    · have e61 : px_X (d + 2 + 1) 128 (43, [vR 103, vI S, vI x2, vI x3, vI b, v5], []) (px_sh L, i, l, r, t) = if i0 105 b = i0 105 x3 then px_X (d + 2 + 1) 128 (89, [vR 103, vI S, vI x2, vI x3, vI b, v5], [vI 1]) (px_sh L, i, l, r, t) else px_X (d + 2 + 1) 128 (88, [vR 103, vI S, vI x2, vI x3, vI b, v5], []) (px_sh L, i, l, r, t) := by
        rw [e43, b128_61 hr _ _ _ _ _ _ _ hn5, px_bi_T ⟨by omega, by omega, hbit⟩, if_neg (by omega), q33i hr _ _ _ (px_s105 L) (Nat.le_of_ble_eq_true rfl) _ (by omega), Option.bind_some, px_psh_some, b128_73 hr _ _ _ _ _ _ _ hn5, q33i hr _ _ _ (px_s105 L) (Nat.le_of_ble_eq_true rfl) _ (by omega), Option.bind_some, px_psh_some, b128_81 hr _ _ _ _ _ _ _ hn5, e105]
      by_cases hpl : i0 105 b = i0 105 x3
      · have hf : tn_f i0 m S (i0 105) x3 b = (tn_qu i0 m x3 b || tn_qu i0 m b x3) := by
          unfold tn_f
          rw [decide_eq_true ha, decide_eq_true ⟨hbit, hpl⟩, Bool.true_and, Bool.true_and]
        obtain ⟨i2, r2, c2, T2⟩ := tn_68 (L := L) (r := r) (t := t) hr d i l m x3 b hT (by rw [e124]; omega) (by rw [e124]; omega)
        rw [tn_qu_fp hQ0 (tn_fp_ch hc rfl) (by omega) (by omega)] at r2
        have c02 : ty_ch [71, 72] i0 i2 := ty_ch_tr hc c2 rfl rfl
        cases hq1 : tn_qu i0 m x3 b with
        | true =>
          rw [hq1] at r2 hf
          refine hgo i2 (vI 1) (px_nl_I _) c02 T2 true (by rw [hf]; rfl) ?_
          rw [e61, if_pos hpl, b128_89 hr _ _ _ _ _ _ _ hn5, if_neg (by decide), r2, Option.bind_some, px_psh_some, b128_106 hr, if_neg (show ¬ ty_b true = 0 by decide), w2, wb]
          rfl
        | false =>
          rw [hq1, Bool.false_or] at hf
          rw [hq1] at r2
          obtain ⟨i3, r3, c3, T3⟩ := tn_68 (L := L) (r := r) (t := t) hr d i2 l m b x3 T2 (by rw [c02 124 (by decide)]; omega) (by rw [c02 124 (by decide)]; omega)
          rw [tn_qu_fp hQ0 (tn_fp_ch c02 rfl) (by omega) (by omega)] at r3
          have c03 : ty_ch [71, 72] i0 i3 := ty_ch_tr c02 c3 rfl rfl
          refine hgo i3 (vI 1) (px_nl_I _) c03 T3 (tn_qu i0 m b x3) hf ?_
          rw [e61, if_pos hpl, b128_89 hr _ _ _ _ _ _ _ hn5, if_neg (by decide), r2, Option.bind_some, px_psh_some, b128_106 hr, if_pos (show ty_b false = 0 from rfl), r3, Option.bind_some, px_psh_some, b128_119 hr, w2, wb]
          cases tn_qu i0 m b x3 with
          | false =>
            rw [if_pos (show ty_b false = 0 from rfl)]
            show _ = px_X (d + 2 + 1) 128 (43, [vR 103, vI S, vI (x2 + 0), vI x3, vI (b + 1), vI 1], []) (px_sh L, i3, l, r, t)
            rw [Int.add_zero]
          | true =>
            rw [if_neg (show ¬ ty_b true = 0 by decide)]
            rfl
      · refine hgo i (vI 0) (px_nl_I _) hc hT false ?_ ?_
        · unfold tn_f
          rw [decide_eq_false (show ¬ (ty_bit S b = true ∧ i0 105 b = i0 105 x3) from fun h => hpl h.2), Bool.and_false, Bool.false_and]
        · rw [e61, if_neg hpl, no]
    · refine hgo i (vI 0) (px_nl_I _) hc hT false ?_ ?_
      · unfold tn_f
        rw [decide_eq_false (show ¬ (ty_bit S b = true ∧ i0 105 b = i0 105 x3) from fun h => hbit h.1), Bool.and_false, Bool.false_and]
      · rw [e43, b128_61 hr _ _ _ _ _ _ _ hn5, px_bi_F (fun h => hbit h.2.2), if_pos rfl, no]
theorem tn_128_a (hr : px_hr r) (d : Nat) (l : MI) (i0 : MI) (m S : Int) (hS : 0 ≤ S ∧ S < 1024) (hQ0 : ty_Q i0) : ∀ (n : Nat) (i : MI) (a x2 : Int) (v4 v5 : PV), px_nl v4 → px_nl v5 → ty_ch [71, 72] i0 i → ty_T2 i m → 0 ≤ a → a + n = i0 124 4 → 0 ≤ x2 → x2 ≤ 10 * a →
    ∃ (i1 : MI), px_X (d + 2 + 1) 128 (4, [vR 103, vI S, vI x2, vI a, v4, v5], []) (px_sh L, i, l, r, t) = some (some (vI (x2 + tn_cc (tn_f i0 m S (i0 105)) (i0 124 4) n a)), (px_sh L, i1, l, r, t)) ∧ ty_ch [71, 72] i0 i1 ∧ ty_T2 i1 m
  | 0, i, a, x2, v4, v5, hn4, hn5, hc, hT, ha, hn, h20, h21 => by
    have b4 := hQ0.2.1
    have e4 : i 4 6 = i0 124 4 := by rw [hc 4 (by decide)]; exact b4.1
    refine ⟨i, ?_, hc, hT⟩
    rw [b128_4 hr _ _ _ _ _ _ hn4 hn5, if_pos (by omega)]
    show _ = some (some (vI (x2 + 0)), (px_sh L, i, l, r, t))
    rw [Int.add_zero]
  | n + 1, i, a, x2, v4, v5, hn4, hn5, hc, hT, ha, hn, h20, h21 => by
    have b4 := hQ0.2.1
    have e4 : i 4 6 = i0 124 4 := by rw [hc 4 (by decide)]; exact b4.1
    have e105 : i 105 = i0 105 := hc 105 (by decide)
    have wa : px_w32 (a + 1) = a + 1 := ty_w (by omega)
    have e20 : px_X (d + 2 + 1) 128 (4, [vR 103, vI S, vI x2, vI a, v4, v5], []) (px_sh L, i, l, r, t) = px_X (d + 2 + 1) 128 (20, [vR 103, vI S, vI x2, vI a, v4, v5], [vI (px_bi (0 ≤ a ∧ a < 31 ∧ ty_bit S a = true))]) (px_sh L, i, l, r, t) := by
      rw [b128_4 hr _ _ _ _ _ _ hn4 hn5, if_neg (by omega), q32 hr _ _ _ _ _ hS.1 (by omega), Option.bind_some, px_psh_some]
    have ecc : tn_cc (tn_f i0 m S (i0 105)) (i0 124 4) (n + 1) a = tn_cn (tn_f i0 m S (i0 105) a) (i0 124 4 - (a + 1)).toNat (a + 1) + tn_cc (tn_f i0 m S (i0 105)) (i0 124 4) n (a + 1) := rfl
    have hnn : (i0 124 4 - (a + 1)).toNat = n := by omega
    rw [hnn] at ecc
    have skip : (∀ b, tn_f i0 m S (i0 105) a b = false) → px_X (d + 2 + 1) 128 (4, [vR 103, vI S, vI x2, vI a, v4, v5], []) (px_sh L, i, l, r, t) = px_X (d + 2 + 1) 128 (4, [vR 103, vI S, vI x2, vI (a + 1), v4, v5], []) (px_sh L, i, l, r, t) → ∃ (i1 : MI), px_X (d + 2 + 1) 128 (4, [vR 103, vI S, vI x2, vI a, v4, v5], []) (px_sh L, i, l, r, t) = some (some (vI (x2 + tn_cc (tn_f i0 m S (i0 105)) (i0 124 4) (n + 1) a)), (px_sh L, i1, l, r, t)) ∧ ty_ch [71, 72] i0 i1 ∧ ty_T2 i1 m := fun hz hx => by
      obtain ⟨i1, r1, c1, T1⟩ := tn_128_a hr d l i0 m S hS hQ0 n i (a + 1) x2 v4 v5 hn4 hn5 hc hT (by omega) (by omega) h20 (by omega)
      refine ⟨i1, ?_, c1, T1⟩
      rw [hx, r1, ecc, tn_cn_0 n (a + 1) (fun x _ _ => hz x), Int.zero_add]
    by_cases hbit : ty_bit S a = true
    · have e31 : px_X (d + 2 + 1) 128 (4, [vR 103, vI S, vI x2, vI a, v4, v5], []) (px_sh L, i, l, r, t) = if i0 105 a = -1 then px_X (d + 2 + 1) 128 (4, [vR 103, vI S, vI x2, vI (a + 1), v4, v5], []) (px_sh L, i, l, r, t) else px_X (d + 2 + 1) 128 (43, [vR 103, vI S, vI x2, vI a, vI (a + 1), v5], []) (px_sh L, i, l, r, t) := by
        rw [e20, b128_20 hr _ _ _ _ _ _ hn4 hn5, px_bi_T ⟨by omega, by omega, hbit⟩, if_neg (by omega), q33i hr _ _ _ (px_s105 L) (Nat.le_of_ble_eq_true rfl) _ (by omega), Option.bind_some, px_psh_some, b128_31 hr _ _ _ _ _ _ hn4 hn5, e105, wa]
      by_cases hpl : i0 105 a = -1
      · exact skip (fun b => by
          unfold tn_f
          rw [decide_eq_false (show ¬ (ty_bit S a = true ∧ ¬ i0 105 a = -1) from fun h => h.2 hpl), Bool.false_and, Bool.false_and]) (by rw [e31, if_pos hpl])
      · obtain ⟨i2, v5', r2, k5, c2, T2⟩ := tn_128_b (L := L) (r := r) (t := t) hr d l i0 m S a hS hQ0 ⟨hbit, hpl⟩ ha n i (a + 1) x2 v5 hn5 hc hT (by omega) (by omega) h20 (by omega)
        have hcb := tn_cn_b (f := tn_f i0 m S (i0 105) a) n (a + 1)
        obtain ⟨i1, r1, c1, T1⟩ := tn_128_a hr d l i0 m S hS hQ0 n i2 (a + 1) (x2 + tn_cn (tn_f i0 m S (i0 105) a) n (a + 1)) (vI (i0 124 4)) v5' (px_nl_I _) k5 c2 T2 (by omega) (by omega) (by omega) (by omega)
        refine ⟨i1, ?_, c1, T1⟩
        rw [e31, if_neg hpl, r2, r1, ecc, Int.add_assoc]
    · exact skip (fun b => by
        unfold tn_f
        rw [decide_eq_false (show ¬ (ty_bit S a = true ∧ ¬ i0 105 a = -1) from fun h => hbit h.1), Bool.false_and, Bool.false_and]) (by rw [e20, b128_20 hr _ _ _ _ _ _ hn4 hn5, px_bi_F (fun h => hbit h.2.2), if_pos rfl, wa])
/-- quarrelsNow -/
theorem tn_128 (hr : px_hr r) (d : Nat) (i l : MI) (m S : Int) (hS : 0 ≤ S ∧ S < 1024) (hT : ty_T2 i m) :
    ∃ i1 : MI, px_C (d + 2 + 1) 128 [vR 103, vI S] (px_sh L, i, l, r, t) = some (some (vI (tn_cc (tn_f i m S (i 105)) (i 124 4) (i 124 4).toNat 0)), (px_sh L, i1, l, r, t)) ∧ ty_ch [71, 72] i i1 ∧ ty_T2 i1 m := by
  have b4 := hT.1.2.1
  obtain ⟨i1, r1, c1, T1⟩ := tn_128_a (L := L) (r := r) (t := t) hr d l i m S hS hT.1 (i 124 4).toNat i 0 0 vJ vJ px_nl_J px_nl_J ty_ch_rf hT (by omega) (by omega) (by omega) (by omega)
  refine ⟨i1, ?_, c1, T1⟩
  rw [e128, b128_0 hr, r1, Int.zero_add]
end TNC
