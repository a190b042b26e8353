/-! quarrelsAt (201). -/
section TND
variable {L t : Nat} {r : MR}
def tn_g (i : MI) (m : Int) (R : Int → Int) (a b : Int) : Bool := decide (0 ≤ R a ∧ R a = R b) && (tn_qu i m a b || tn_qu i m b a)
theorem tn_201_b (hr : px_hr r) (d : Nat) (i0 : MI) (m x3 : Int) (hm : 0 ≤ m ∧ m < 1440) (hQ0 : ty_Q i0) (h3 : 0 ≤ x3) : ∀ (n : Nat) (i l0 l : MI) (b x2 : Int), ty_ch [140] i0 i → ty_ch [141] l0 l → x3 < b → b + n = i0 124 4 → 0 ≤ x2 → x2 + n ≤ 1000 →
    ∃ (i1 l1 : MI), px_X (d + 3 + 1 + 1) 201 (19, [vR 123, vI m, vI x2, vI x3, vI b], []) (px_sh L, i, l, r, t) = px_X (d + 3 + 1 + 1) 201 (4, [vR 123, vI m, vI (x2 + tn_cn (tn_g i0 m (i0 142) x3) n b), vI (x3 + 1), vI (i0 124 4)], []) (px_sh L, i1, l1, r, t) ∧ ty_ch [140] i0 i1 ∧ ty_ch [141] l0 l1
  | 0, i, l0, l, b, x2, hc, hcl, hb, hn, h20, h21 => by
    have b4 := hQ0.2.1
    have e124 : i 124 = i0 124 := hc 124 (by decide)
    refine ⟨i, l, ?_, hc, hcl⟩
    rw [b201_19 hr _ _ _ _ _ _ _ (fun h => absurd (by rw [e124]; omega) h) (fun h => absurd (by rw [e124]; omega) h) (fun h => absurd (by rw [e124]; omega) h), if_pos (by rw [e124]; omega), ty_w (x := x3 + 1) (by omega), show b = i0 124 4 by omega]
    show _ = px_X (d + 3 + 1 + 1) 201 (4, [vR 123, vI m, vI (x2 + 0), vI (x3 + 1), vI (i0 124 4)], []) (px_sh L, i, l, r, t)
    rw [Int.add_zero]
  | n + 1, i, l0, l, b, x2, hc, hcl, hb, hn, h20, h21 => by
    have b4 := hQ0.2.1
    have e124 : i 124 = i0 124 := hc 124 (by decide)
    have e142 : i 142 = i0 142 := hc 142 (by decide)
    have wb : px_w32 (b + 1) = b + 1 := ty_w (by omega)
    have w2 : px_w32 (x2 + 1) = x2 + 1 := ty_w (by omega)
    have w0 : px_w32 (x2 + 0) = x2 := by rw [ty_w (by omega)]; omega
    have hgo : ∀ (i2 l2 : MI), ty_ch [140] i0 i2 → ty_ch [141] l0 l2 → ∀ y : Bool, tn_g i0 m (i0 142) x3 b = y →
        px_X (d + 3 + 1 + 1) 201 (19, [vR 123, vI m, vI x2, vI x3, vI b], []) (px_sh L, i, l, r, t) = px_X (d + 3 + 1 + 1) 201 (19, [vR 123, vI m, vI (x2 + ty_b y), vI x3, vI (b + 1)], []) (px_sh L, i2, l2, r, t) →
        ∃ (i1 l1 : MI), px_X (d + 3 + 1 + 1) 201 (19, [vR 123, vI m, vI x2, vI x3, vI b], []) (px_sh L, i, l, r, t) = px_X (d + 3 + 1 + 1) 201 (4, [vR 123, vI m, vI (x2 + tn_cn (tn_g i0 m (i0 142) x3) (n + 1) b), vI (x3 + 1), vI (i0 124 4)], []) (px_sh L, i1, l1, r, t) ∧ ty_ch [140] i0 i1 ∧ ty_ch [141] l0 l1 := fun i2 l2 c2 cl2 y hy hx => by
      have hyb : 0 ≤ ty_b y ∧ ty_b y ≤ 1 := by cases y <;> exact ⟨by decide, by decide⟩
      obtain ⟨i1, l1, r1, c1, cl1⟩ := tn_201_b hr d i0 m x3 hm hQ0 h3 n i2 l0 l2 (b + 1) (x2 + ty_b y) c2 cl2 (by omega) (by omega) (by omega) (by omega)
      refine ⟨i1, l1, ?_, c1, cl1⟩
      have e : x2 + tn_cn (tn_g i0 m (i0 142) x3) (n + 1) b = x2 + ty_b y + tn_cn (tn_g i0 m (i0 142) x3) n (b + 1) := by
        show x2 + ((if tn_g i0 m (i0 142) x3 b = true then 1 else 0) + tn_cn (tn_g i0 m (i0 142) x3) n (b + 1)) = _
        rw [hy]
        cases y
        · rw [if_neg (by decide)]
          show x2 + (0 + _) = x2 + 0 + _
          omega
        · rw [if_pos rfl]
          show x2 + (1 + _) = x2 + 1 + _
          omega
      rw [hx, r1, e]
    have e19 := b201_19 (L := L) (t := t) hr (d + 3 + 1) i l m x2 x3 b (by intros; omega) (by intros; omega) (by intros; omega)
    rw [e124, e142, if_neg (by omega), wb] at e19
    by_cases h0 : i0 142 x3 < 0
    · rw [if_pos h0] at e19
      refine hgo i l hc hcl false ?_ ?_
      · unfold tn_g
        rw [decide_eq_false (show ¬ (0 ≤ i0 142 x3 ∧ i0 142 x3 = i0 142 b) from fun h => by omega), Bool.false_and]
      · rw [e19]
        show _ = px_X (d + 3 + 1 + 1) 201 (19, [vR 123, vI m, vI (x2 + 0), vI x3, vI (b + 1)], []) (px_sh L, i, l, r, t)
        rw [Int.add_zero]
    · rw [if_neg h0] at e19
      by_cases hpl : i0 142 x3 = i0 142 b
      · rw [if_pos hpl] at e19
        have hf : tn_g i0 m (i0 142) x3 b = (tn_qu i0 m x3 b || tn_qu i0 m b x3) := by
          unfold tn_g
          rw [decide_eq_true (show 0 ≤ i0 142 x3 ∧ i0 142 x3 = i0 142 b from ⟨by omega, hpl⟩), Bool.true_and]
        obtain ⟨i2, l2, r2, c2, cl2⟩ := tn_200 (L := L) (r := r) (t := t) hr d i l m x3 b (ty_Q_ch hQ0 hc rfl) hm (by rw [e124]; omega) (by rw [e124]; omega)
        rw [tn_qu_fp hQ0 (tn_fp_ch hc rfl) (by omega) (by omega)] at r2
        have c02 : ty_ch [140] i0 i2 := ty_ch_tr hc c2 rfl rfl
        have cl02 : ty_ch [141] l0 l2 := ty_ch_tr hcl cl2 rfl rfl
        rw [r2, Option.bind_some, px_psh_some, b201_64 hr, w2, wb] at e19
        cases hq1 : tn_qu i0 m x3 b with
        | true =>
          rw [hq1] at e19 hf
          rw [if_neg (show ¬ ty_b true = 0 by decide)] at e19
          exact hgo i2 l2 c02 cl02 true (by rw [hf]; rfl) e19
        | false =>
          rw [hq1, Bool.false_or] at hf
          rw [hq1] at e19
          obtain ⟨i3, l3, r3, c3, cl3⟩ := tn_200 (L := L) (r := r) (t := t) hr d i2 l2 m b x3 (ty_Q_ch hQ0 c02 rfl) hm (by rw [c02 124 (by decide)]; omega) (by rw [c02 124 (by decide)]; omega)
          rw [tn_qu_fp hQ0 (tn_fp_ch c02 rfl) (by omega) (by omega)] at r3
          have c03 : ty_ch [140] i0 i3 := ty_ch_tr c02 c3 rfl rfl
          have cl03 : ty_ch [141] l0 l3 := ty_ch_tr cl02 cl3 rfl rfl
          rw [if_pos (show ty_b false = 0 from rfl), r3, Option.bind_some, px_psh_some, b201_75 hr, w0, w2, wb] at e19
          refine hgo i3 l3 c03 cl03 (tn_qu i0 m b x3) hf ?_
          rw [e19]
          cases tn_qu i0 m b x3 with
          | false =>
            rw [if_pos (show ty_b false = 0 from rfl)]
            show _ = px_X (d + 3 + 1 + 1) 201 (19, [vR 123, vI m, vI (x2 + 0), vI x3, vI (b + 1)], []) (px_sh L, i3, l3, r, t)
            rw [Int.add_zero]
          | true =>
            rw [if_neg (show ¬ ty_b true = 0 by decide)]
            rfl
      · rw [if_neg hpl] at e19
        refine hgo i l hc hcl false ?_ ?_
        · unfold tn_g
          rw [decide_eq_false (show ¬ (0 ≤ i0 142 x3 ∧ i0 142 x3 = i0 142 b) from fun h => hpl h.2), Bool.false_and]
        · rw [e19]
          show _ = px_X (d + 3 + 1 + 1) 201 (19, [vR 123, vI m, vI (x2 + 0), vI x3, vI (b + 1)], []) (px_sh L, i, l, r, t)
          rw [Int.add_zero]
theorem tn_201_a (hr : px_hr r) (d : Nat) (i0 : MI) (m : Int) (hm : 0 ≤ m ∧ m < 1440) (hQ0 : ty_Q i0) : ∀ (n : Nat) (i l0 l : MI) (a x2 : Int) (v4 : PV), px_nl v4 → ty_ch [140] i0 i → ty_ch [141] l0 l → 0 ≤ a → a + n = i0 124 4 → 0 ≤ x2 → x2 ≤ 10 * a →
    ∃ (i1 l1 : MI), px_X (d + 3 + 1 + 1) 201 (4, [vR 123, vI m, vI x2, vI a, v4], []) (px_sh L, i, l, r, t) = some (some (vI (x2 + tn_cc (tn_g i0 m (i0 142)) (i0 124 4) n a)), (px_sh L, i1, l1, r, t)) ∧ ty_ch [140] i0 i1 ∧ ty_ch [141] l0 l1
  | 0, i, l0, l, a, x2, v4, hn4, hc, hcl, ha, hn, h20, h21 => by
    have e124 : i 124 = i0 124 := hc 124 (by decide)
    refine ⟨i, l, ?_, hc, hcl⟩
    rw [b201_4 hr _ _ _ _ _ _ hn4, if_pos (by rw [e124]; omega)]
    show _ = some (some (vI (x2 + 0)), (px_sh L, i, l, r, t))
    rw [Int.add_zero]
  | n + 1, i, l0, l, a, x2, v4, hn4, hc, hcl, ha, hn, h20, h21 => by
    have b4 := hQ0.2.1
    have e124 : i 124 = i0 124 := hc 124 (by decide)
    have wa : px_w32 (a + 1) = a + 1 := ty_w (by omega)
    have ecc : tn_cc (tn_g i0 m (i0 142)) (i0 124 4) (n + 1) a = tn_cn (tn_g i0 m (i0 142) a) (i0 124 4 - (a + 1)).toNat (a + 1) + tn_cc (tn_g i0 m (i0 142)) (i0 124 4) n (a + 1) := rfl
    have hnn : (i0 124 4 - (a + 1)).toNat = n := by omega
    rw [hnn] at ecc
    obtain ⟨i2, l2, r2, c2, cl2⟩ := tn_201_b (L := L) (r := r) (t := t) hr d i0 m a hm hQ0 ha n i l0 l (a + 1) x2 hc hcl (by omega) (by omega) h20 (by omega)
    have hcb := tn_cn_b (f := tn_g i0 m (i0 142) a) n (a + 1)
    obtain ⟨i1, l1, r1, c1, cl1⟩ := tn_201_a hr d i0 m hm hQ0 n i2 l0 l2 (a + 1) (x2 + tn_cn (tn_g i0 m (i0 142) a) n (a + 1)) (vI (i0 124 4)) (px_nl_I _) c2 cl2 (by omega) (by omega) (by omega) (by omega)
    refine ⟨i1, l1, ?_, c1, cl1⟩
    rw [b201_4 hr _ _ _ _ _ _ hn4, if_neg (by rw [e124]; omega), wa, r2, r1, ecc, Int.add_assoc]
/-- quarrelsAt -/
theorem tn_201 (hr : px_hr r) (d : Nat) (i l : MI) (m S : Int) (PL : Int → Int) (hm : 0 ≤ m ∧ m < 1440) (hQ : ty_Q i) (hR : ∀ x, 0 ≤ x → x < 10 → i 142 x = if x < i 124 4 ∧ ty_bit S x = true then PL x else -2) (hP : ∀ x, -1 ≤ PL x) :
    ∃ i1 l1 : MI, px_C (d + 3 + 1 + 1) 201 [vR 123, vI m] (px_sh L, i, l, r, t) = some (some (vI (tn_cc (tn_f i m S PL) (i 124 4) (i 124 4).toNat 0)), (px_sh L, i1, l1, r, t)) ∧ ty_ch [140] i i1 ∧ ty_ch [141] l l1 := by
  have b4 := hQ.2.1.2
  obtain ⟨i1, l1, r1, c1, cl1⟩ := tn_201_a (L := L) (r := r) (t := t) hr d i m hm hQ (i 124 4).toNat i l l 0 0 vJ px_nl_J ty_ch_rf ty_ch_rf (by omega) (by omega) (by omega) (by omega)
  refine ⟨i1, l1, ?_, c1, cl1⟩
  have e : tn_cc (tn_g i m (i 142)) (i 124 4) (i 124 4).toNat 0 = tn_cc (tn_f i m S PL) (i 124 4) (i 124 4).toNat 0 := by
    refine tn_cc_c _ _ (fun x y x0 xy y1 => ?_)
    unfold tn_g tn_f
    congr 1
    have hx := hR x x0 (by omega)
    have hy := hR y (by omega) (by omega)
    have px := hP x
    have py := hP y
    rw [← Bool.decide_and]
    refine decide_eq_decide.mpr ?_
    rw [hx, hy]
    by_cases bx : ty_bit S x = true
    · rw [if_pos ⟨by omega, bx⟩]
      by_cases bY : ty_bit S y = true
      · rw [if_pos ⟨y1, bY⟩]
        constructor
        · rintro ⟨g1, g2⟩
          exact ⟨⟨bx, by omega⟩, bY, g2.symm⟩
        · rintro ⟨⟨-, g1⟩, -, g2⟩
          exact ⟨by omega, g2.symm⟩
      · rw [if_neg (fun h => bY h.2)]
        constructor
        · rintro ⟨g1, g2⟩
          omega
        · rintro ⟨-, g1, -⟩
          exact absurd g1 bY
    · rw [if_neg (fun h => bx h.2)]
      constructor
      · rintro ⟨g1, g2⟩
        omega
      · rintro ⟨⟨g1, -⟩, -⟩
        exact absurd g1 bx
  rw [e201, b201_0 hr, r1, Int.zero_add, e]
end TND
