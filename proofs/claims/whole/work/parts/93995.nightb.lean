/-! The reference's night (203). -/
def tn_KR : List Nat := [124, 140, 142, 143, 144, 145]
/-- the reference after n minutes -/
def tn_RI (i0 : MI) (S f e : Int) (n : Nat) (i : MI) : Prop :=
  ty_Q i ∧ ty_ch tn_KR i0 i ∧ (∀ y : Int, ¬ tn_nt y → i 124 y = i0 124 y) ∧ (i 124 10 = tn_T e n ∧ i 124 9 = tn_Qn e f (tn_qn i0 S) n) ∧
  (∀ x : Int, 0 ≤ x → x < i0 124 4 → i 124 (129 + 14 * x) = (if ty_bit S x = true then tn_wt e f (tn_P i0 S) (tn_ww i0) x n else 0) ∧ i 124 (130 + 14 * x) = (if ty_bit S x = true then tn_wt e f (tn_P i0 S) (tn_wu i0) x n else 0) ∧ i 124 (131 + 14 * x) = (if ty_bit S x = true then tn_mv e f (tn_P i0 S) x n else 0) ∧ i 124 (132 + 14 * x) = i0 124 (128 + 14 * x)) ∧
  (0 < n → ∀ x : Int, 0 ≤ x → x < 10 → i 142 x = if x < i0 124 4 ∧ ty_bit S x = true then tn_P i0 S (tn_M e f n) x else -2) ∧
  ∀ k x : Int, 0 ≤ k → k < 50 → k < tn_T e n → 0 ≤ x → x < i0 124 4 → ty_bit S x = true → i 124 (320 + 10 * k + x) = tn_P i0 S (f + e * k) x
theorem tn_fp_R {i0 i : MI} (hc : ty_ch tn_KR i0 i) (hy : ∀ y : Int, ¬ tn_nt y → i 124 y = i0 124 y) : tn_fp i0 i := ⟨fun k hk => hc k (fun h => by
  unfold tn_KR at h
  simp only [List.mem_cons, List.not_mem_nil, or_false] at h
  omega), hy⟩
section TNR
variable {L t : Nat} {r : MR}
theorem tn_203_w (hr : px_hr r) (d : Nat) (i0 i l : MI) (S f e to : Int) (n : Nat) (v6 v7 v8 : PV) (hn6 : px_nl v6) (hn7 : px_nl v7) (hn8 : px_nl v8) (hQ0 : ty_Q i0) (hS : 0 ≤ S ∧ S < 1024) (hf : 0 ≤ f) (hm : f + n < 1440)
    (hQ : ty_Q i) (hc : ty_ch tn_KR i0 i) (hy : ∀ y : Int, ¬ tn_nt y → i 124 y = i0 124 y) (h9 : i 124 10 = tn_T e (n + 1) ∧ i 124 9 = tn_Qn e f (tn_qn i0 S) (n + 1))
    (hrow : ∀ x : Int, 0 ≤ x → x < i0 124 4 → i 124 (129 + 14 * x) = (if ty_bit S x = true then tn_wt e f (tn_P i0 S) (tn_ww i0) x n else 0) ∧ i 124 (130 + 14 * x) = (if ty_bit S x = true then tn_wt e f (tn_P i0 S) (tn_wu i0) x n else 0) ∧ i 124 (131 + 14 * x) = (if ty_bit S x = true then tn_mv e f (tn_P i0 S) x (n + 1) else 0) ∧ i 124 (132 + 14 * x) = i0 124 (128 + 14 * x))
    (hpl : ∀ x : Int, 0 ≤ x → x < 10 → i 142 x = if x < i0 124 4 ∧ ty_bit S x = true then tn_P i0 S (tn_M e f (n + 1)) x else -2)
    (h13 : ∀ k x : Int, 0 ≤ k → k < 50 → k < tn_T e (n + 1) → 0 ≤ x → x < i0 124 4 → ty_bit S x = true → i 124 (320 + 10 * k + x) = tn_P i0 S (f + e * k) x) :
    ∃ (i1 l1 : MI) (v6' v7' v8' : PV), px_nl v6' ∧ px_nl v7' ∧ px_nl v8' ∧ px_X (d + 6 + 1) 203 (160, [vR 123, vI f, vI to, vI e, vI S, vI (f + n), v6, v7, v8], []) (px_sh L, i, l, r, t) = px_X (d + 6 + 1) 203 (137, [vR 123, vI f, vI to, vI e, vI S, vI (f + ((n + 1 : Nat) : Int)), v6', v7', v8'], []) (px_sh L, i1, l1, r, t) ∧ tn_RI i0 S f e (n + 1) i1 ∧ ty_ch [141] l l1 := by
  have fp := tn_fp_R hc hy
  have b4 := hQ0.2.1.2
  have b3 := hQ0.2.2.1.2
  have e4 : i 124 4 = i0 124 4 := hy 4 (tn_nt_lo (by omega))
  obtain ⟨i1, l1, r1, c1, cl1, -, v1⟩ := q192 (L := L) (r := r) (t := t) hr (d + 2) i l (f + n) hQ.1 (by omega)
  rw [tn_lev hQ0 fp] at r1
  have i1124 : i1 124 = i 124 := c1 124 (by decide)
  have Q1 : ty_Q i1 := ty_Q_ch hQ c1 rfl
  have hlb := ty_lev_b (i := i0) (m := f + n) (by omega)
  have hPb : ∀ x, -1 ≤ tn_P i0 S (tn_M e f (n + 1)) x ∧ tn_P i0 S (tn_M e f (n + 1)) x < i0 124 3 := fun x => tn_P_b hQ0 S _ x
  have nob : ∀ g, 0 ≤ g → g < i0 124 4 → i0 124 (121 + 14 * g) = i0 124 (121 + 14 * g) ∧ 0 ≤ i0 124 (121 + 14 * g) ∧ i0 124 (121 + 14 * g) ≤ 30 := fun g g0 g1 => by
    have h := hQ0.2.2.2.2.1 g g0 g1 1 (by omega) (by omega)
    have e2 := h.2.1
    have e3 := h.2.2.2.1 (by omega)
    rw [show 120 + 14 * g + 1 = 121 + 14 * g by omega] at e2 e3
    exact ⟨rfl, e2, e3⟩
  have hwb : ∀ (w : Int → Int → Int → Bool) x, 0 ≤ tn_wt e f (tn_P i0 S) w x n ∧ tn_wt e f (tn_P i0 S) w x n ≤ n := fun w x => tn_wt_b n
  obtain ⟨i2, v8', k8, r2, c2, p1, p2, p3⟩ := tn_203_n (L := L) (r := r) (t := t) hr (d + 6) l1 f to e S (f + n) (ty_lev i0 (f + n)) (i0 124 4) (i 142) (tn_hi i0) (fun g => i0 124 (121 + 14 * g)) b4 hlb (fun g g0 g1 h => by
    have h2 := hpl g g0 (by omega)
    by_cases c : g < i0 124 4 ∧ ty_bit S g = true
    · rw [if_pos c] at h2
      rw [h2]
      have := hPb g
      exact ⟨⟨this.1, by omega⟩, tn_hi_b hQ0 this⟩
    · rw [if_neg c] at h2
      exact absurd h2 h) (fun g g0 g1 => (nob g g0 g1).2) (i0 124 4).toNat i1 0 v8 hn8 (by rw [i1124]; exact e4) (c1 142 (by decide)) (fun p p0 p1 => by
    unfold tn_hi
    rw [i1124]
    by_cases c : p = -1
    · rw [if_pos c, if_pos c]
    · rw [if_neg c, if_neg c, hy _ (tn_nt_p (by omega))]) (fun g g0 g1 => by
    have h := hy _ (tn_nt_g (g := g) (c := 1) g0 (by omega) (by omega))
    rw [show 120 + 14 * g + 1 = 121 + 14 * g by omega] at h
    rw [i1124, h]) (fun x x0 x1 => by
    have h := hrow x x0 x1
    have a := hwb (tn_ww i0) x
    have b := hwb (tn_wu i0) x
    rw [i1124, h.1, h.2.1]
    constructor
    · split <;> omega
    · split <;> omega) (by omega) (by omega)
  have f12 : tn_fr i1 i2 := by
    refine ⟨fun k hk => c2 k (by simp only [List.mem_singleton]; omega), fun y hny => p3 y (fun x x0 x1 => ⟨fun h => hny ?_, fun h => hny ?_⟩)⟩
    · exact Or.inr (Or.inr (Or.inr ⟨x, x0, x1, by omega, by omega⟩))
    · exact Or.inr (Or.inr (Or.inr ⟨x, x0, x1, by omega, by omega⟩))
  have w1 : px_w32 (f + n + 1) = f + ((n + 1 : Nat) : Int) := by rw [ty_w (by omega)]; omega
  have old : ∀ y : Int, (∀ x : Int, 0 ≤ x → x < 10 → y ≠ 129 + 14 * x ∧ y ≠ 130 + 14 * x) → i2 124 y = i 124 y := fun y h => by rw [p3 y h, i1124]
  refine ⟨i2, l1, vI (ty_lev i0 (f + n)), vI (i0 124 4), v8', px_nl_I _, px_nl_I _, k8, ?_, ⟨tn_Q Q1 f12, ty_ch_tr (ty_ch_tr hc c1 (S'' := tn_KR) rfl rfl) c2 rfl rfl, fun y hny => by rw [f12.2 y hny, i1124]; exact hy y hny, ⟨?_, ?_⟩, fun x x0 x1 => ?_, fun _ x x0 x1 => ?_, fun k x k0 k1 k2 x0 x1 hb => ?_⟩, cl1⟩
  · have h171 := b203_171 (L := L) (t := t) hr (d + 6) i2 l1 f to e S (f + n) (ty_lev i0 (f + n)) (i0 124 4) k8 (fun h => absurd (by rw [old 4 (fun x _ _ => by omega), e4]; omega) h) (fun h => absurd (by rw [old 4 (fun x _ _ => by omega), e4]; omega) h) (fun h => absurd (by rw [old 4 (fun x _ _ => by omega), e4]; omega) h)
    rw [if_pos (by rw [old 4 (fun x _ _ => by omega), e4]; omega), w1] at h171
    rw [b203_160 hr _ _ _ _ _ _ _ _ hn6 hn7 hn8, r1, Option.bind_some, px_psh_some, b203_166 hr _ _ _ _ _ _ _ _ hn6 hn7 hn8, r2, h171]
  · rw [old 10 (fun x _ _ => by omega)]
    exact h9.1
  · rw [old 9 (fun x _ _ => by omega)]
    exact h9.2
  · have h := hrow x x0 x1
    have hp := hpl x x0 (by omega)
    rw [p1 x x0 (by omega), p2 x x0 (by omega), old (131 + 14 * x) (fun z _ _ => by omega), old (132 + 14 * x) (fun z _ _ => by omega), i1124, h.1, h.2.1]
    refine ⟨?_, ?_, h.2.2.1, h.2.2.2⟩
    · show _ = if ty_bit S x = true then tn_wt e f (tn_P i0 S) (tn_ww i0) x n + (if decide (tn_hi i0 (tn_P i0 S (tn_M e f (n + 1)) x) < ty_lev i0 (f + n)) = true then 1 else 0) else 0
      by_cases c : ty_bit S x = true
      · rw [if_pos ⟨x1, c⟩] at hp
        rw [if_pos c, if_pos c, hp]
        have hP1 := hPb x
        by_cases c2 : tn_hi i0 (tn_P i0 S (tn_M e f (n + 1)) x) < ty_lev i0 (f + n)
        · rw [if_pos ⟨x0, x1, by omega, c2⟩, if_pos (decide_eq_true c2)]
        · rw [if_neg (fun h => c2 h.2.2.2), if_neg (fun h => c2 (of_decide_eq_true h))]
      · rw [if_neg (fun h => c h.2)] at hp
        rw [if_neg c, if_neg c, if_neg (fun h => h.2.2.1 hp), Int.add_zero]
    · show _ = if ty_bit S x = true then tn_wt e f (tn_P i0 S) (tn_wu i0) x n + (if decide (tn_hi i0 (tn_P i0 S (tn_M e f (n + 1)) x) + i0 124 (121 + 14 * x) < ty_lev i0 (f + n)) = true then 1 else 0) else 0
      by_cases c : ty_bit S x = true
      · rw [if_pos ⟨x1, c⟩] at hp
        rw [if_pos c, if_pos c, hp]
        have hP1 := hPb x
        by_cases c2 : tn_hi i0 (tn_P i0 S (tn_M e f (n + 1)) x) + i0 124 (121 + 14 * x) < ty_lev i0 (f + n)
        · rw [if_pos ⟨x0, x1, by omega, c2⟩, if_pos (decide_eq_true c2)]
        · rw [if_neg (fun h => c2 h.2.2.2), if_neg (fun h => c2 (of_decide_eq_true h))]
      · rw [if_neg (fun h => c h.2)] at hp
        rw [if_neg c, if_neg c, if_neg (fun h => h.2.2.1 hp), Int.add_zero]
  · rw [c2 142 (by decide), c1 142 (by decide)]
    exact hpl x x0 x1
  · rw [old _ (fun z _ _ => by omega)]
    exact h13 k x k0 k1 k2 x0 x1 hb
theorem tn_203_s (hr : px_hr r) (d : Nat) (i0 i l : MI) (S f e to : Int) (n : Nat) (v6 v7 v8 : PV) (hn6 : px_nl v6) (hn7 : px_nl v7) (hn8 : px_nl v8) (hQ0 : ty_Q i0) (hS : 0 ≤ S ∧ S < 1024) (hf : 0 ≤ f) (he : 1 ≤ e ∧ e ≤ 60) (hto : f + n ≤ to ∧ to ≤ 1439) (hI : tn_RI i0 S f e n i) :
    ∃ (i1 l1 : MI) (v6' v7' v8' : PV), px_nl v6' ∧ px_nl v7' ∧ px_nl v8' ∧ px_X (d + 6 + 1) 203 (137, [vR 123, vI f, vI to, vI e, vI S, vI (f + n), v6, v7, v8], []) (px_sh L, i, l, r, t) = px_X (d + 6 + 1) 203 (137, [vR 123, vI f, vI to, vI e, vI S, vI (f + ((n + 1 : Nat) : Int)), v6', v7', v8'], []) (px_sh L, i1, l1, r, t) ∧ tn_RI i0 S f e (n + 1) i1 ∧ ty_ch [141] l l1 := by
  obtain ⟨hQ, hc, hy, h9, hrow, hpl, h13⟩ := hI
  have fp := tn_fp_R hc hy
  have b4 := hQ0.2.1.2
  have e4 : i 124 4 = i0 124 4 := hy 4 (tn_nt_lo (by omega))
  have hT := tn_T_b (e := e) n
  have eT : tn_T e (n + 1) = if (n : Int) = e * tn_T e n then tn_T e n + 1 else tn_T e n := rfl
  have eM : tn_M e f (n + 1) = if (n : Int) = e * tn_T e n then f + n else tn_M e f n := rfl
  have eQ : tn_Qn e f (tn_qn i0 S) (n + 1) = tn_Qn e f (tn_qn i0 S) n + (if (n : Int) = e * tn_T e n then tn_qn i0 S (f + n) else 0) := rfl
  have emv : ∀ x, tn_mv e f (tn_P i0 S) x (n + 1) = tn_mv e f (tn_P i0 S) x n + (if (n : Int) = e * tn_T e n ∧ 0 < tn_T e n ∧ ¬ tn_P i0 S (tn_M e f n) x = tn_P i0 S (f + n) x then 1 else 0) := fun x => rfl
  have e137 := b203_137 (L := L) (t := t) hr (d + 6) i l f to e S (f + n) hn6 hn7 hn8 (fun _ => by omega)
  have wn : px_w32 (f + n - f) = n := by rw [ty_w (by omega)]; omega
  rw [if_neg (by omega), wn, Int.tmod_eq_emod_of_nonneg (by omega)] at e137
  by_cases c : (n : Int) = e * tn_T e n
  · rw [if_pos ((tn_T_m he.1 n).mp c)] at e137
    rw [if_pos c] at eT eM eQ
    have hqb : ∀ m, 0 ≤ tn_qn i0 S m ∧ tn_qn i0 S m ≤ 45 := fun m => tn_cc_45 b4
    have hQb := tn_Qn_b (e := e) (f := f) hqb n
    obtain ⟨i1, l1, r1, c1, cl1, Q1, a10, a9, p142, p131, p320, old⟩ := tn_202 (L := L) (r := r) (t := t) hr d i l (f + n) S (tn_T e n) hQ (by omega) hS (by omega) h9.1 (by rw [h9.2]; omega) (fun x x0 x1 => by
      rw [e4] at x1
      have := tn_mv_b (e := e) (f := f) (P := tn_P i0 S) (g := x) n
      rw [(hrow x x0 x1).2.2.1]
      split <;> omega)
    have epl : ∀ x, ty_place i (f + n) S x = tn_P i0 S (f + n) x := fun x => by
      rw [tn_place hQ0 fp]
      rfl
    have eqn : tn_qn i S (f + n) = tn_qn i0 S (f + n) := by
      unfold tn_qn
      rw [e4, tn_place hQ0 fp]
      refine tn_cc_c _ _ (fun x y x0 xy y1 => ?_)
      unfold tn_f
      rw [tn_qu_fp hQ0 fp (by omega) (by omega), tn_qu_fp hQ0 fp (by omega) (by omega)]
    have yold : ∀ y : Int, ¬ tn_nt y → i1 124 y = i0 124 y := fun y hny => by
      rw [old y (by
        by_cases h : y < 320
        · exact h
        · exact absurd (Or.inr (Or.inr (Or.inl (by omega)))) hny) (fun h => hny (Or.inl h)) (fun h => hny (Or.inr (Or.inl h))) (fun x x0 x1 h => hny (Or.inr (Or.inr (Or.inr ⟨x, x0, x1, by omega, by omega⟩))))]
      exact hy y hny
    obtain ⟨i2, l2, v6', v7', v8', k6, k7, k8, r2, I2, cl2⟩ := tn_203_w (L := L) (r := r) (t := t) hr d i0 i1 l1 S f e to n v6 v7 v8 hn6 hn7 hn8 hQ0 hS hf (by omega) Q1 (ty_ch_tr hc c1 rfl rfl) yold ⟨by rw [a10, eT], by rw [a9, h9.2, eqn, eQ]⟩ (fun x x0 x1 => by
      have h := hrow x x0 x1
      rw [old (129 + 14 * x) (by omega) (by omega) (by omega) (fun z _ _ => by omega), old (130 + 14 * x) (by omega) (by omega) (by omega) (fun z _ _ => by omega), old (132 + 14 * x) (by omega) (by omega) (by omega) (fun z _ _ => by omega)]
      refine ⟨h.1, h.2.1, ?_, h.2.2.2⟩
      rw [p131 x x0 (by rw [e4]; exact x1), h.2.2.1, e4, epl, emv]
      by_cases cb : ty_bit S x = true
      · rw [if_pos cb, if_pos cb, if_pos (show x < i0 124 4 ∧ ty_bit S x = true from ⟨x1, cb⟩)]
        by_cases n0 : 0 < n
        · have h2 := hpl n0 x x0 (by omega)
          rw [if_pos ⟨x1, cb⟩] at h2
          rw [h2]
          by_cases c4 : 0 < tn_T e n ∧ ¬ tn_P i0 S (f + n) x = tn_P i0 S (tn_M e f n) x
          · rw [if_pos c4, if_pos ⟨c, c4.1, fun h => c4.2 h.symm⟩]
          · rw [if_neg c4, if_neg (fun h => c4 ⟨h.2.1, fun h5 => h.2.2 h5.symm⟩)]
        · rw [if_neg (fun h => by omega), if_neg (fun h => by omega)]
      · rw [if_neg cb, if_neg cb, if_neg (show ¬ (x < i0 124 4 ∧ ty_bit S x = true) from fun h => cb h.2)]
        by_cases n0 : 0 < n
        · have h2 := hpl n0 x x0 (by omega)
          rw [if_neg (fun h => cb h.2)] at h2
          rw [h2, if_neg (fun h => h.2 rfl), Int.add_zero]
        · rw [if_neg (fun h => by omega), Int.add_zero]) (fun x x0 x1 => by
      rw [p142 x x0 x1, e4, epl, eM]) (fun k x k0 k1 k2 x0 x1 cb => by
      rw [p320 k x k0 k1 x0 (by rw [e4]; exact x1)]
      by_cases ek : k = tn_T e n
      · rw [if_pos ek, e4, if_pos ⟨x1, cb⟩, epl, ek, ← c]
      · rw [if_neg ek]
        exact h13 k x k0 k1 (by omega) x0 x1 cb)
    exact ⟨i2, l2, v6', v7', v8', k6, k7, k8, by rw [e137, r1, Option.bind_some, px_psh_none, r2], I2, ty_ch_tr cl1 cl2 rfl rfl⟩
  · have n0 : 0 < n := by
      by_cases e0 : n = 0
      · rw [e0] at c
        exact absurd (show ((0 : Nat) : Int) = e * 0 by omega) c
      · omega
    rw [if_neg (fun h => c ((tn_T_m he.1 n).mpr h))] at e137
    rw [if_neg c] at eT eM eQ
    rw [Int.add_zero] at eQ
    obtain ⟨i2, l2, v6', v7', v8', k6, k7, k8, r2, I2, cl2⟩ := tn_203_w (L := L) (r := r) (t := t) hr d i0 i l S f e to n v6 v7 v8 hn6 hn7 hn8 hQ0 hS hf (by omega) hQ hc hy ⟨by rw [h9.1, eT], by rw [h9.2, eQ]⟩ (fun x x0 x1 => by
      have h := hrow x x0 x1
      have e0 : tn_mv e f (tn_P i0 S) x (n + 1) = tn_mv e f (tn_P i0 S) x n := by
        rw [emv, if_neg (fun h => c h.1), Int.add_zero]
      rw [e0]
      exact h) (fun x x0 x1 => by
      rw [eM]
      exact hpl n0 x x0 x1) (fun k x k0 k1 k2 x0 x1 cb => by
      rw [eT] at k2
      exact h13 k x k0 k1 k2 x0 x1 cb)
    exact ⟨i2, l2, v6', v7', v8', k6, k7, k8, by rw [e137, r2], I2, cl2⟩
theorem tn_203_l (hr : px_hr r) (d : Nat) (i0 : MI) (S f e to : Int) (hQ0 : ty_Q i0) (hS : 0 ≤ S ∧ S < 1024) (hf : 0 ≤ f) (he : 1 ≤ e ∧ e ≤ 60) (hto : to ≤ 1439) : ∀ (s n : Nat) (i l : MI) (v6 v7 v8 : PV), px_nl v6 → px_nl v7 → px_nl v8 → tn_RI i0 S f e n i → f + n + s = to + 1 →
    ∃ i1 l1 : MI, px_X (d + 6 + 1) 203 (137, [vR 123, vI f, vI to, vI e, vI S, vI (f + n), v6, v7, v8], []) (px_sh L, i, l, r, t) = some (some (vI (tn_T e (n + s))), (px_sh L, i1, l1, r, t)) ∧ tn_RI i0 S f e (n + s) i1 ∧ ty_ch [141] l l1
  | 0, n, i, l, v6, v7, v8, hn6, hn7, hn8, hI, hs => by
    refine ⟨i, l, ?_, hI, ty_ch_rf⟩
    rw [b203_137 hr _ _ _ _ _ _ _ _ hn6 hn7 hn8 (fun h => absurd (by omega) h), if_pos (by omega), hI.2.2.2.1.1]
    rfl
  | s + 1, n, i, l, v6, v7, v8, hn6, hn7, hn8, hI, hs => by
    obtain ⟨i1, l1, v6', v7', v8', k6, k7, k8, r1, I1, cl1⟩ := tn_203_s (L := L) (r := r) (t := t) hr d i0 i l S f e to n v6 v7 v8 hn6 hn7 hn8 hQ0 hS hf he (by omega) hI
    obtain ⟨i2, l2, r2, I2, cl2⟩ := tn_203_l hr d i0 S f e to hQ0 hS hf he hto s (n + 1) i1 l1 v6' v7' v8' k6 k7 k8 I1 (by omega)
    refine ⟨i2, l2, ?_, ?_, ty_ch_tr cl1 cl2 rfl rfl⟩
    · rw [r1, r2, show n + (s + 1) = n + 1 + s by omega]
    · rw [show n + (s + 1) = n + 1 + s by omega]
      exact I2
end TNR
