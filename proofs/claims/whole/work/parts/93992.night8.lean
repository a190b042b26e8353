/-! The class's pass (126). -/
section TNP
variable {L t : Nat} {r : MR}
theorem tn_126_s (hr : px_hr r) (d : Nat) (i0 i l : MI) (S f e to : Int) (n : Nat) (hQ0 : ty_Q i0) (hS : 0 ≤ S ∧ S < 1024) (hf : 0 ≤ f) (he : 1 ≤ e ∧ e ≤ 60) (hto : f + n ≤ to ∧ to ≤ 1439) (hs0 : 0 ≤ i0 103 7 ∧ i0 103 7 ≤ 1000000) (hI : tn_CI i0 S f e n i) :
    ∃ i1 : MI, px_X (d + 6 + 1) 126 (31, [vR 103, vI f, vI to, vI e, vR 9, vI S, vI (f + e * tn_T e n), vI (f + n)], []) (px_sh L, i, l, r, t) = px_X (d + 6 + 1) 126 (31, [vR 103, vI f, vI to, vI e, vR 9, vI S, vI (f + e * tn_T e (n + 1)), vI (f + ((n + 1 : Nat) : Int))], []) (px_sh L, i1, l, r, t) ∧ tn_CI i0 S f e (n + 1) i1 := by
  obtain ⟨hQ, hc, hst, h9, hrow, hpl, h13⟩ := hI
  have b4 := hQ0.2.1.2
  have hT := tn_T_b (e := e) n
  have hTe := tn_T_e he.1 n
  have eT : tn_T e (n + 1) = if (n : Int) = e * tn_T e n then tn_T e n + 1 else tn_T e n := rfl
  have eM : tn_M e f (n + 1) = if (n : Int) = e * tn_T e n then f + n else tn_M e f n := rfl
  have eQ : tn_Qn e f (tn_qn i0 S) (n + 1) = tn_Qn e f (tn_qn i0 S) n + (if (n : Int) = e * tn_T e n then tn_qn i0 S (f + n) else 0) := rfl
  have emv : ∀ x, tn_mv e f (tn_P i0 S) x (n + 1) = tn_mv e f (tn_P i0 S) x n + (if (n : Int) = e * tn_T e n ∧ 0 < tn_T e n ∧ ¬ tn_P i0 S (tn_M e f n) x = tn_P i0 S (f + n) x then 1 else 0) := fun x => rfl
  by_cases c : (n : Int) = e * tn_T e n
  · rw [if_pos c] at eT eM eQ
    obtain ⟨i1, r1, c1, s1, T1⟩ := q121 (L := L) (r := r) (t := t) hr d i l (f + n) hQ (by omega) (by omega) hst.2
    obtain ⟨i2, r2, c2, T2, p2⟩ := q122 (L := L) (r := r) (t := t) hr (d + 1) i1 l (f + n) S T1 hS
    have c01 : ty_ch tn_KS i0 i1 := ty_ch_tr hc c1 rfl rfl
    have c02 : ty_ch tn_KS i0 i2 := ty_ch_tr c01 c2 rfl rfl
    have ep : ∀ x, 0 ≤ x → x < 10 → i2 105 x = tn_P i0 S (f + n) x := fun x x0 x1 => by
      rw [p2 x x0 x1, tn_place hQ0 (tn_fp_ch c01 rfl)]
      rfl
    have r9 : i2 9 = i 9 := by rw [c2 9 (by decide), c1 9 (by decide)]
    have r12 : i2 12 = i 12 := by rw [c2 12 (by decide), c1 12 (by decide)]
    have r106 : i2 106 = i 106 := by rw [c2 106 (by decide), c1 106 (by decide)]
    have r13 : i2 13 = i 13 := by rw [c2 13 (by decide), c1 13 (by decide)]
    have r10 : i2 10 = i 10 := by rw [c2 10 (by decide), c1 10 (by decide)]
    have r11 : i2 11 = i 11 := by rw [c2 11 (by decide), c1 11 (by decide)]
    have r124 : i2 124 = i0 124 := c02 124 (by decide)
    have hqb : ∀ m, 0 ≤ tn_qn i0 S m ∧ tn_qn i0 S m ≤ 45 := fun m => tn_cc_45 b4
    have hQb := tn_Qn_b (e := e) (f := f) hqb n
    obtain ⟨i3, r3, c3, T3, a0, a1, a2, p12, p106, p13⟩ := tn_127 (L := L) (r := r) (t := t) hr (d + 2) i2 l (f + n) S (tn_T e n) T2 hS (by omega) (by rw [r9]; exact h9.1) (by rw [r9]; exact h9.2.2) (by rw [r9, h9.2.1]; omega) (fun x x0 x1 => by
      have := tn_mv_b (e := e) (f := f) (P := tn_P i0 S) (g := x) n
      rw [r12, (hrow x x0 x1).1]
      split <;> omega)
    have c03 : ty_ch tn_KS i0 i3 := ty_ch_tr c02 c3 rfl rfl
    have ecc : tn_cc (tn_f i2 (f + n) S (i2 105)) (i2 124 4) (i2 124 4).toNat 0 = tn_qn i0 S (f + n) := by
      unfold tn_qn
      rw [r124]
      refine tn_cc_c _ _ (fun x y x0 xy y1 => ?_)
      unfold tn_f
      rw [tn_qu_fp hQ0 (tn_fp_ch c02 rfl) (by omega) (by omega), tn_qu_fp hQ0 (tn_fp_ch c02 rfl) (by omega) (by omega), ep x x0 (by omega), ep y (by omega) (by omega)]
      rfl
    rw [ecc] at a1
    have s3 : i3 103 = i1 103 := by rw [c3 103 (by decide), c2 103 (by decide)]
    have hx6 : px_w32 (f + e * tn_T e n + e) = f + e * tn_T e (n + 1) := by
      rw [eT, Int.mul_add, Int.mul_one, ty_w (by omega)]
      omega
    obtain ⟨i4, r4, I4⟩ := tn_126_w (L := L) (r := r) (t := t) hr d i0 i3 l S f e to (f + e * tn_T e (n + 1)) n hQ0 hS hf (by omega) S T3.1 c03 ⟨by rw [s3, s1, hst.1, eT]; omega, T3.2.2.2.2.1⟩ ⟨by rw [a0, eT], by rw [a1, r9, h9.2.1, eQ], a2⟩ (fun x x0 x1 => by
      have h := hrow x x0 x1
      rw [c3 10 (by decide), c3 11 (by decide), r10, r11]
      refine ⟨?_, h.2⟩
      rw [p12 x x0 x1, r12, h.1, r124, r106, ep x x0 x1, emv]
      by_cases cc : x < i0 124 4 ∧ ty_bit S x = true
      · rw [if_pos cc, if_pos cc]
        by_cases n0 : 0 < n
        · rw [((hpl n0 x x0 x1).2 cc)]
          by_cases c4 : 0 < tn_T e n ∧ ¬ tn_P i0 S (tn_M e f n) x = tn_P i0 S (f + n) x
          · rw [if_pos ⟨cc.1, cc.2, c4⟩, if_pos ⟨c, c4⟩]
          · rw [if_neg (fun h => c4 h.2.2), if_neg (fun h => c4 h.2)]
        · rw [if_neg (fun h => by omega), if_neg (fun h => by omega)]
      · rw [if_neg cc, if_neg cc, if_neg (fun h => cc ⟨h.1, h.2.1⟩), Int.add_zero]) (fun x x0 x1 => by
      rw [eM]
      refine ⟨by rw [c3 105 (by decide)]; exact ep x x0 x1, fun cc => ?_⟩
      rw [p106 x x0 x1, r124, if_pos cc]
      exact ep x x0 x1) (fun k x k0 k1 k2 x0 x1 cc => by
      rw [p13 k x k0 k1 x0 x1, r124]
      by_cases ek : k = tn_T e n
      · rw [if_pos ⟨ek, cc⟩, ep x x0 x1, ek, ← c]
      · rw [if_neg (fun h => ek h.1), r13]
        exact h13 k x k0 k1 (by omega) x0 x1 cc)
    refine ⟨i4, ?_, I4⟩
    rw [b126_31 hr, if_neg (by omega), if_pos (by omega), r1, Option.bind_some, px_psh_none, b126_50 hr, r2, Option.bind_some, px_psh_none, b126_56 hr, r3, Option.bind_some, px_psh_none, b126_62 hr, hx6, r4]
  · have n0 : 0 < n := by
      by_cases e0 : n = 0
      · rw [e0] at c
        exact absurd (show ((0 : Nat) : Int) = e * 0 by omega) c
      · omega
    rw [if_neg c] at eT eM eQ
    rw [Int.add_zero] at eQ
    obtain ⟨i4, r4, I4⟩ := tn_126_w (L := L) (r := r) (t := t) hr d i0 i l S f e to (f + e * tn_T e n) n hQ0 hS hf (by omega) S hQ hc ⟨by rw [eT]; exact hst.1, hst.2⟩ ⟨by rw [eT]; exact h9.1, by rw [eQ]; exact h9.2.1, h9.2.2⟩ (fun x x0 x1 => by
      have h := hrow x x0 x1
      have e0 : tn_mv e f (tn_P i0 S) x (n + 1) = tn_mv e f (tn_P i0 S) x n := by
        rw [emv, if_neg (fun h => c h.1), Int.add_zero]
      rw [e0]
      exact h) (fun x x0 x1 => by
      rw [eM]
      exact hpl n0 x x0 x1) (fun k x k0 k1 k2 x0 x1 cc => by
      rw [eT] at k2
      exact h13 k x k0 k1 k2 x0 x1 cc)
    refine ⟨i4, ?_, I4⟩
    rw [eT, b126_31 hr, if_neg (by omega), if_neg (by omega), r4]
theorem tn_126_n (hr : px_hr r) (d : Nat) (i0 l : MI) (S f e to : Int) (hQ0 : ty_Q i0) (hS : 0 ≤ S ∧ S < 1024) (hf : 0 ≤ f) (he : 1 ≤ e ∧ e ≤ 60) (hto : to ≤ 1439) (hs0 : 0 ≤ i0 103 7 ∧ i0 103 7 ≤ 1000000) : ∀ (s n : Nat) (i : MI), tn_CI i0 S f e n i → f + n + s = to + 1 →
    ∃ i1 : MI, px_X (d + 6 + 1) 126 (31, [vR 103, vI f, vI to, vI e, vR 9, vI S, vI (f + e * tn_T e n), vI (f + n)], []) (px_sh L, i, l, r, t) = some (none, (px_sh L, i1, l, r, t)) ∧ tn_CI i0 S f e (n + s) i1
  | 0, n, i, hI, hs => by
    exact ⟨i, by rw [b126_31 hr, if_pos (by omega)], hI⟩
  | s + 1, n, i, hI, hs => by
    obtain ⟨i1, r1, I1⟩ := tn_126_s (L := L) (r := r) (t := t) hr d i0 i l S f e to n hQ0 hS hf he (by omega) hs0 hI
    obtain ⟨i2, r2, I2⟩ := tn_126_n hr d i0 l S f e to hQ0 hS hf he hto hs0 s (n + 1) i1 I1 (by omega)
    refine ⟨i2, by rw [r1, r2], ?_⟩
    rw [show n + (s + 1) = n + 1 + s by omega]
    exact I2
/-- pass -/
theorem tn_126 (hr : px_hr r) (d : Nat) (i l : MI) (f to e : Int) (hQ : ty_Q i) (hf : 0 ≤ f) (hft : f ≤ to) (hto : to ≤ 1439) (he : 1 ≤ e ∧ e ≤ 60) (hs0 : 0 ≤ i 103 7 ∧ i 103 7 ≤ 1000000) (hsp : ∀ x : Int, 0 ≤ x → x < 320 → i 108 x ≤ i 103 7) (hh : ∀ g : Int, 0 ≤ g → g < i 124 4 → i (21 + g.toNat) 8 = i 124 (128 + 14 * g)) :
    ∃ i1 : MI, px_C (d + 6 + 1) 126 [vR 103, vI f, vI to, vI e] (px_sh L, i, l, r, t) = some (none, (px_sh L, i1, l, r, t)) ∧ tn_CI i (ty_hset i) f e (to + 1 - f).toNat i1 := by
  have b4 := hQ.2.1
  have hset := ty_hset_b (i := i) b4.2.2
  have h57 := q57 (L := L) (r := r) (t := t) hr (d + 5) i l b4.1 b4.2 hh
  obtain ⟨i1, r1, c1, a0, a1, a2, p1⟩ := tn_85 (L := L) (r := r) (t := t) hr (d + 5) i l (ty_hset i)
  have I0 : tn_CI i (ty_hset i) f e 0 i1 := by
    refine ⟨tn_Q hQ (tn_fr_ch c1 rfl), ty_ch_w c1 rfl, ⟨?_, ?_⟩, ⟨a0, a1, a2⟩, fun x x0 x1 => ?_, fun h => absurd h (by decide), fun k x k0 k1 k2 => ?_⟩
    · rw [c1 103 (by decide)]
      show _ = i 103 7 + 0
      omega
    · rw [c1 103 (by decide), c1 108 (by decide)]
      exact hsp
    · have h := p1 x x0 x1
      rw [h.1, h.2.1, h.2.2]
      refine ⟨?_, ?_, ?_⟩
      · show (0 : Int) = if _ then 0 else 0
        split <;> rfl
      · show (0 : Int) = if _ then 0 else 0
        split <;> rfl
      · show (0 : Int) = if _ then 0 else 0
        split <;> rfl
    · have : tn_T e 0 = 0 := rfl
      omega
  obtain ⟨i2, r2, I2⟩ := tn_126_n (L := L) (r := r) (t := t) hr d i l (ty_hset i) f e to hQ hset hf he hto hs0 (to + 1 - f).toNat 0 i1 I0 (by omega)
  rw [Nat.zero_add] at I2
  refine ⟨i2, ?_, I2⟩
  have ez : f + e * tn_T e 0 = f := by
    show f + e * 0 = f
    omega
  rw [ez, show f + ((0 : Nat) : Int) = f by omega] at r2
  rw [e126, b126_0 hr, h57, Option.bind_some, px_psh_some, b126_16 hr, r1, Option.bind_some, px_psh_none, b126_25 hr, r2]
end TNP
