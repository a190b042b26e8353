/-! feed. -/
theorem ty_i2b {x : Int} (h : px_r32 x) : px_i2b x = Int.bmod x 256 := by
  unfold px_i2b
  rw [Int8.toInt_toInt32, Int32.toInt_toInt8, Int32.toInt_ofInt]
  show Int.bmod (px_w32 x) 256 = _
  rw [px_w32_id h]
theorem ty_ushr_bv (x : Int) (s : Nat) (hs : s = 24 ∨ s = 16 ∨ s = 8 ∨ s = 0) : px_ushr x (s : Int) = ((BitVec.ofInt 32 x) >>> s).toInt := by
  rcases hs with h | h | h | h <;> subst h <;> rfl
theorem ty_and255 (v : BitVec 32) : px_and v.toInt 255 = ((v.toNat % 256 : Nat) : Int) := by
  unfold px_and
  show BitVec.toInt (BitVec.ofInt 32 v.toInt &&& BitVec.ofInt 32 255) = _
  refine ty_bv32_i ?_ (by omega)
  rw [BitVec.ofInt_toInt, BitVec.toNat_and]
  exact Nat.and_two_pow_sub_one_eq_mod v.toNat 8
/-- a byte of a number -/
def ty_by (x : Int) (s : Nat) : Int := x / ((2 ^ s : Nat) : Int) % 256
theorem ty_by_1 (x : Int) (s : Nat) (hs : s = 24 ∨ s = 16 ∨ s = 8 ∨ s = 0) : px_and (px_ushr x (s : Int)) 255 = ty_by x s := by
  unfold ty_by
  rw [ty_ushr_bv x s hs, ty_and255, BitVec.toNat_ushiftRight, BitVec.toNat_ofInt, Nat.shiftRight_eq_div_pow]
  rcases hs with h | h | h | h <;> subst h
  · show (((x % 4294967296).toNat / 16777216 % 256 : Nat) : Int) = x / 16777216 % 256
    omega
  · show (((x % 4294967296).toNat / 65536 % 256 : Nat) : Int) = x / 65536 % 256
    omega
  · show (((x % 4294967296).toNat / 256 % 256 : Nat) : Int) = x / 256 % 256
    omega
  · show (((x % 4294967296).toNat / 1 % 256 : Nat) : Int) = x / 1 % 256
    omega
theorem ty_by_2 {x : Int} (hx : px_r32 x) (s : Nat) (hs : s = 24 ∨ s = 16 ∨ s = 8 ∨ s = 0) : px_i2b (px_i2b (px_shr x (s : Int))) = px_i2b (ty_by x s) := by
  have e : px_shr x (s : Int) = x / ((2 ^ s : Nat) : Int) := by
    rw [ty_shr_bv x s (by omega), BitVec.toInt_sshiftRight, BitVec.toInt_ofInt, Int.shiftRight_eq_div_pow]
    show px_w32 x / _ = _
    rw [px_w32_id hx]
  have hr : px_r32 (x / ((2 ^ s : Nat) : Int)) := by
    unfold px_r32 at hx ⊢
    rcases hs with h | h | h | h <;> subst h
    · show -2147483648 ≤ x / 16777216 ∧ x / 16777216 < 2147483648
      omega
    · show -2147483648 ≤ x / 65536 ∧ x / 65536 < 2147483648
      omega
    · show -2147483648 ≤ x / 256 ∧ x / 256 < 2147483648
      omega
    · show -2147483648 ≤ x / 1 ∧ x / 1 < 2147483648
      omega
  have hb : px_r32 (ty_by x s) := by
    unfold px_r32 ty_by
    omega
  have h1 : px_r32 (px_i2b (x / ((2 ^ s : Nat) : Int))) := px_ir32 _
  rw [e, ty_i2b h1, ty_i2b hr, ty_i2b hb, Int.bmod_bmod]
  exact (Int.emod_bmod _ 256).symm
theorem ty_by_b (x : Int) (s : Nat) : 0 ≤ ty_by x s ∧ ty_by x s ≤ 255 := by
  unfold ty_by
  omega
/-- a number's bytes, the greatest first -/
def ty_fo (x k : Int) : Int := if k = 0 then ty_by x 24 else if k = 1 then ty_by x 16 else if k = 2 then ty_by x 8 else ty_by x 0
theorem ty_fo_b (x k : Int) : 0 ≤ ty_fo x k ∧ ty_fo x k ≤ 255 := by
  unfold ty_fo
  split
  · exact ty_by_b _ _
  · split
    · exact ty_by_b _ _
    · split
      · exact ty_by_b _ _
      · exact ty_by_b _ _
section TYFE
variable {L t : Nat} {r : MR}
theorem ty_91_1 (hr : px_hr r) (d : Nat) (i l : MI) (x : Int) (s : Nat) (z : Int) (hs : s = 24 ∨ s = 16 ∨ s = 8 ∨ s = 0) (h : 0 ≤ i 58 1 ∧ i 58 1 < 300) (hz : (s : Int) - 8 = z) :
    px_X (d + 1) 91 (3, [vR 58, vI x, vI s], []) (px_sh L, i, l, r, t) = px_X (d + 1) 91 (3, [vR 58, vI x, vI z], []) (px_sh L, px_up (px_up i 64 (i 58 1) (ty_by x s)) 58 1 (i 58 1 + 1), l, r, t) := by
  have w1 : px_w32 ((s : Int) + -8) = z := by rw [ty_w (by omega)]; omega
  have w2 : px_w32 (i 58 1 + 1) = i 58 1 + 1 := ty_w (by omega)
  rw [b91_3 hr, if_neg (by omega), ty_by_1 x s hs, q34i hr _ _ _ (px_s64 L) (Nat.le_of_ble_eq_true rfl) _ _ (by omega), Option.bind_some, px_psh_none, b91_25 hr, w1, show (px_up i 64 (i 58 1) (ty_by x s)) 58 1 = i 58 1 from rfl, w2]
theorem q91 (hr : px_hr r) (d : Nat) (i l : MI) (x : Int) (h : 0 ≤ i 58 1 ∧ i 58 1 + 4 ≤ 300) : ∃ i1 : MI, px_C (d + 1) 91 [vR 58, vI x] (px_sh L, i, l, r, t) = some (none, (px_sh L, i1, l, r, t)) ∧ ty_ch [58, 64] i i1 ∧ (∀ j : Int, j ≠ 1 → i1 58 j = i 58 j) ∧ i1 58 1 = i 58 1 + 4 ∧ ∀ y : Int, i1 64 y = if i 58 1 ≤ y ∧ y < i 58 1 + 4 then ty_fo x (y - i 58 1) else i 64 y := by
  obtain ⟨n, hn⟩ : ∃ n : Int, n = i 58 1 := ⟨_, rfl⟩
  obtain ⟨j1, h1⟩ : ∃ j : MI, j = px_up (px_up i 64 n (ty_by x 24)) 58 1 (n + 1) := ⟨_, rfl⟩
  have n1 : j1 58 1 = n + 1 := by rw [h1, ty_up_eq]
  obtain ⟨j2, h2⟩ : ∃ j : MI, j = px_up (px_up j1 64 (n + 1) (ty_by x 16)) 58 1 (n + 1 + 1) := ⟨_, rfl⟩
  have n2 : j2 58 1 = n + 1 + 1 := by rw [h2, ty_up_eq]
  obtain ⟨j3, h3⟩ : ∃ j : MI, j = px_up (px_up j2 64 (n + 1 + 1) (ty_by x 8)) 58 1 (n + 1 + 1 + 1) := ⟨_, rfl⟩
  have n3 : j3 58 1 = n + 1 + 1 + 1 := by rw [h3, ty_up_eq]
  have s1 := ty_91_1 (L := L) (t := t) hr d i l x 24 16 (by omega) (by omega) (by omega)
  have s2 := ty_91_1 (L := L) (t := t) hr d j1 l x 16 8 (by omega) (by omega) (by omega)
  have s3 := ty_91_1 (L := L) (t := t) hr d j2 l x 8 0 (by omega) (by omega) (by omega)
  have s4 := ty_91_1 (L := L) (t := t) hr d j3 l x 0 (-8) (by omega) (by omega) (by omega)
  rw [← hn, ← h1] at s1
  rw [n1, ← h2] at s2
  rw [n2, ← h3] at s3
  rw [n3] at s4
  rw [← hn]
  refine ⟨_, (by rw [e91, b91_0 hr]; exact s1.trans (s2.trans (s3.trans (s4.trans (by rw [b91_3 hr, if_pos (by omega)]))))), ?_, fun j hj => ?_, ?_, fun y => ?_⟩
  · intro k hk
    have k58 : k ≠ 58 := fun h => hk (by rw [h]; exact List.mem_cons_self)
    have k64 : k ≠ 64 := fun h => hk (by rw [h]; exact List.mem_cons_of_mem _ (List.mem_singleton.mpr rfl))
    rw [ty_up_row k58, ty_up_row k64, h3, ty_up_row k58, ty_up_row k64, h2, ty_up_row k58, ty_up_row k64, h1, ty_up_row k58, ty_up_row k64]
  · rw [ty_up_j hj, ty_up_row (by omega), h3, ty_up_j hj, ty_up_row (by omega), h2, ty_up_j hj, ty_up_row (by omega), h1, ty_up_j hj, ty_up_row (by omega)]
  · rw [ty_up_eq]
    omega
  · unfold ty_fo
    rw [ty_up_row (by omega)]
    by_cases y3 : y = n + 1 + 1 + 1
    · rw [y3, ty_up_eq, if_pos (by omega), if_neg (by omega), if_neg (by omega), if_neg (by omega)]
    · rw [ty_up_j y3, h3, ty_up_row (by omega)]
      by_cases y2 : y = n + 1 + 1
      · rw [y2, ty_up_eq, if_pos (by omega), if_neg (by omega), if_neg (by omega), if_pos (by omega)]
      · rw [ty_up_j y2, h2, ty_up_row (by omega)]
        by_cases y1 : y = n + 1
        · rw [y1, ty_up_eq, if_pos (by omega), if_neg (by omega), if_pos (by omega)]
        · rw [ty_up_j y1, h1, ty_up_row (by omega)]
          by_cases y0 : y = n
          · rw [y0, ty_up_eq, if_pos (by omega), if_pos (by omega)]
          · rw [ty_up_j y0, if_neg (by omega)]
theorem ty_153_1 (hr : px_hr r) (d : Nat) (i l : MI) (x : Int) (hx : px_r32 x) (s : Nat) (z : Int) (hs : s = 24 ∨ s = 16 ∨ s = 8 ∨ s = 0) (h : 0 ≤ i 123 6 ∧ i 123 6 < 300) (hz : (s : Int) - 8 = z) :
    px_X d 153 (3, [vR 123, vI x, vI s], []) (px_sh L, i, l, r, t) = px_X d 153 (3, [vR 123, vI x, vI z], []) (px_sh L, px_up (px_up i 126 (i 123 6) (px_i2b (ty_by x s))) 123 6 (i 123 6 + 1), l, r, t) := by
  have w1 : px_w32 ((s : Int) - 8) = z := by rw [ty_w (by omega)]; omega
  have w2 : px_w32 (i 123 6 + 1) = i 123 6 + 1 := ty_w (by omega)
  rw [b153_3 hr _ _ _ _ _ (fun _ => h), if_neg (by omega), ty_by_2 hx s hs, w1, w2]
theorem q153 (hr : px_hr r) (d : Nat) (i l : MI) (x : Int) (hx : px_r32 x) (h : 0 ≤ i 123 6 ∧ i 123 6 + 4 ≤ 300) : ∃ i1 : MI, px_C d 153 [vR 123, vI x] (px_sh L, i, l, r, t) = some (none, (px_sh L, i1, l, r, t)) ∧ ty_ch [123, 126] i i1 ∧ (∀ j : Int, j ≠ 6 → i1 123 j = i 123 j) ∧ i1 123 6 = i 123 6 + 4 ∧ ∀ y : Int, i1 126 y = if i 123 6 ≤ y ∧ y < i 123 6 + 4 then px_i2b (ty_fo x (y - i 123 6)) else i 126 y := by
  obtain ⟨n, hn⟩ : ∃ n : Int, n = i 123 6 := ⟨_, rfl⟩
  obtain ⟨j1, h1⟩ : ∃ j : MI, j = px_up (px_up i 126 n (px_i2b (ty_by x 24))) 123 6 (n + 1) := ⟨_, rfl⟩
  have n1 : j1 123 6 = n + 1 := by rw [h1, ty_up_eq]
  obtain ⟨j2, h2⟩ : ∃ j : MI, j = px_up (px_up j1 126 (n + 1) (px_i2b (ty_by x 16))) 123 6 (n + 1 + 1) := ⟨_, rfl⟩
  have n2 : j2 123 6 = n + 1 + 1 := by rw [h2, ty_up_eq]
  obtain ⟨j3, h3⟩ : ∃ j : MI, j = px_up (px_up j2 126 (n + 1 + 1) (px_i2b (ty_by x 8))) 123 6 (n + 1 + 1 + 1) := ⟨_, rfl⟩
  have n3 : j3 123 6 = n + 1 + 1 + 1 := by rw [h3, ty_up_eq]
  have s1 := ty_153_1 (L := L) (t := t) hr d i l x hx 24 16 (by omega) (by omega) (by omega)
  have s2 := ty_153_1 (L := L) (t := t) hr d j1 l x hx 16 8 (by omega) (by omega) (by omega)
  have s3 := ty_153_1 (L := L) (t := t) hr d j2 l x hx 8 0 (by omega) (by omega) (by omega)
  have s4 := ty_153_1 (L := L) (t := t) hr d j3 l x hx 0 (-8) (by omega) (by omega) (by omega)
  rw [← hn, ← h1] at s1
  rw [n1, ← h2] at s2
  rw [n2, ← h3] at s3
  rw [n3] at s4
  rw [← hn]
  refine ⟨_, (by rw [e153, b153_0 hr]; exact s1.trans (s2.trans (s3.trans (s4.trans (by rw [b153_3 hr _ _ _ _ _ (fun h => absurd (by omega) h), if_pos (by omega)]))))), ?_, fun j hj => ?_, ?_, fun y => ?_⟩
  · intro k hk
    have k58 : k ≠ 123 := fun h => hk (by rw [h]; exact List.mem_cons_self)
    have k64 : k ≠ 126 := fun h => hk (by rw [h]; exact List.mem_cons_of_mem _ (List.mem_singleton.mpr rfl))
    rw [ty_up_row k58, ty_up_row k64, h3, ty_up_row k58, ty_up_row k64, h2, ty_up_row k58, ty_up_row k64, h1, ty_up_row k58, ty_up_row k64]
  · rw [ty_up_j hj, ty_up_row (by omega), h3, ty_up_j hj, ty_up_row (by omega), h2, ty_up_j hj, ty_up_row (by omega), h1, ty_up_j hj, ty_up_row (by omega)]
  · rw [ty_up_eq]
    omega
  · unfold ty_fo
    rw [ty_up_row (by omega)]
    by_cases y3 : y = n + 1 + 1 + 1
    · rw [y3, ty_up_eq, if_pos (by omega), if_neg (by omega), if_neg (by omega), if_neg (by omega)]
    · rw [ty_up_j y3, h3, ty_up_row (by omega)]
      by_cases y2 : y = n + 1 + 1
      · rw [y2, ty_up_eq, if_pos (by omega), if_neg (by omega), if_neg (by omega), if_pos (by omega)]
      · rw [ty_up_j y2, h2, ty_up_row (by omega)]
        by_cases y1 : y = n + 1
        · rw [y1, ty_up_eq, if_pos (by omega), if_neg (by omega), if_pos (by omega)]
        · rw [ty_up_j y1, h1, ty_up_row (by omega)]
          by_cases y0 : y = n
          · rw [y0, ty_up_eq, if_pos (by omega), if_pos (by omega)]
          · rw [ty_up_j y0, if_neg (by omega)]
end TYFE
theorem ok_feed (a1 : Int) (h1 : px_r32 a1) (a2 : Int) (h2 : px_r32 a2) (a3 : Int) (h3 : px_r32 a3) (a4 : Int) (h4 : px_r32 a4) (a5 : Int) (h5 : px_r32 a5) : ty_ok ty_CR 7 154 [vI a1, vI a2, vI a3, vI a4, vI a5] := by
  intro L t r hr n d i l hn hc
  have hc' := ty_CR_mono hc
  have hD := hc.1
  have hdim := ty_D_2 hD
  have hT := hc.2.2.2.1
  have t6 : i 58 1 = i 123 6 ∧ 0 ≤ i 123 6 ∧ i 123 6 ≤ 300 := hT.1
  obtain ⟨hb, hs, hp, hg, ho, hh, hl, hnn⟩ := hc.2.1
  have b5 := hs.2.2.2.2.1
  have b6 := hs.2.2.2.2.2.1
  have e48 : i 4 8 = i 124 6 := b6.1
  have w1 : px_w32 (i 123 6 + 20) = i 123 6 + 20 := ty_w (by omega)
  show ∃ (v : Int) (i1 l1 i2 l2 : MI), px_C (d + 38 + 1 + 1) 7 [vR 3, vI a1, vI a2, vI a3, vI a4, vI a5] _ = _ ∧ px_C (d + 38 + 1 + 1) 154 [vR 123, vI a1, vI a2, vI a3, vI a4, vI a5] _ = _ ∧ _
  by_cases hin : i 123 6 + 20 ≤ 300
  · obtain ⟨m, hm⟩ : ∃ m : Int, m = i 123 6 := ⟨_, rfl⟩
    obtain ⟨j1, e1, c1, k1, m1, v1⟩ := q91 (L := L) (t := t) hr (d + 38) i l a1 (by omega)
    obtain ⟨j2, e2, c2, k2, m2, v2⟩ := q91 (L := L) (t := t) hr (d + 38) j1 l a2 (by omega)
    obtain ⟨j3, e3, c3, k3, m3, v3⟩ := q91 (L := L) (t := t) hr (d + 38) j2 l a3 (by omega)
    obtain ⟨j4, e4, c4, k4, m4, v4⟩ := q91 (L := L) (t := t) hr (d + 38) j3 l a4 (by omega)
    obtain ⟨j5, e5, c5, k5, m5, v5⟩ := q91 (L := L) (t := t) hr (d + 38) j4 l a5 (by omega)
    have cr : ∀ k, k ≠ 58 → k ≠ 64 → j5 k = i k := fun k h58 h64 => by
      have hk : ¬ k ∈ [58, 64] := fun h => by
        simp only [List.mem_cons, List.not_mem_nil, or_false] at h
        omega
      rw [c5 k hk, c4 k hk, c3 k hk, c2 k hk, c1 k hk]
    have k58 : ∀ j : Int, j ≠ 1 → j5 58 j = i 58 j := fun j hj => by rw [k5 j hj, k4 j hj, k3 j hj, k2 j hj, k1 j hj]
    have p6 : j5 123 6 = m := by rw [cr 123 (by omega) (by omega), hm]
    obtain ⟨g1, x1, d1, q1, n1, u1⟩ := q153 (L := L) (t := t) hr (d + 38 + 1) j5 l a1 h1 (by omega)
    obtain ⟨g2, x2, d2, q2, n2, u2⟩ := q153 (L := L) (t := t) hr (d + 38 + 1) g1 l a2 h2 (by omega)
    obtain ⟨g3, x3, d3, q3, n3, u3⟩ := q153 (L := L) (t := t) hr (d + 38 + 1) g2 l a3 h3 (by omega)
    obtain ⟨g4, x4, d4, q4, n4, u4⟩ := q153 (L := L) (t := t) hr (d + 38 + 1) g3 l a4 h4 (by omega)
    obtain ⟨g5, x5, d5, q5, n5, u5⟩ := q153 (L := L) (t := t) hr (d + 38 + 1) g4 l a5 h5 (by omega)
    have dr : ∀ k, k ≠ 123 → k ≠ 126 → g5 k = j5 k := fun k h58 h64 => by
      have hk : ¬ k ∈ [123, 126] := fun h => by
        simp only [List.mem_cons, List.not_mem_nil, or_false] at h
        omega
      rw [d5 k hk, d4 k hk, d3 k hk, d2 k hk, d1 k hk]
    have k123 : ∀ j : Int, j ≠ 6 → g5 123 j = i 123 j := fun j hj => by rw [q5 j hj, q4 j hj, q3 j hj, q2 j hj, q1 j hj, cr 123 (by omega) (by omega)]
    have hR : ∀ k, k ≠ 58 → k ≠ 64 → k ≠ 123 → k ≠ 126 → g5 k = i k := fun k a b c e => by rw [dr k c e, cr k a b]
    have f1 : g5 58 1 = m + 20 := by rw [dr 58 (by omega) (by omega)]; omega
    have f6 : g5 123 6 = m + 20 := by omega
    have f58 : ∀ j : Int, j ≠ 1 → g5 58 j = i 58 j := fun j hj => by rw [dr 58 (by omega) (by omega), k58 j hj]
    have f64 : g5 64 = j5 64 := dr 64 (by omega) (by omega)
    have f126 : j5 126 = i 126 := cr 126 (by omega) (by omega)
    refine ⟨m + 20, j5, l, g5, l, ?_, ?_, ⟨?_, ?_, ?_, ?_, ?_⟩, cr 0 (by omega) (by omega), hR 0 (by omega) (by omega) (by omega) (by omega)⟩
    · rw [e7, b7_0 hr, e90, b90_0 hr, t6.1, w1, if_neg (by omega), Option.bind_some, px_psh_some, b7_9 hr, if_neg (by omega), e1, Option.bind_some, px_psh_none, b7_22 hr, e2, Option.bind_some, px_psh_none, b7_30 hr, e3, Option.bind_some, px_psh_none, b7_38 hr, e4, Option.bind_some, px_psh_none, b7_47 hr, e5, Option.bind_some, px_psh_none, b7_56 hr, show j5 58 1 = m + 20 by omega]
    · rw [e154, b154_0 hr, p6, hm, w1, if_pos hin, x1, Option.bind_some, px_psh_none, b154_20 hr, x2, Option.bind_some, px_psh_none, b154_25 hr, x3, Option.bind_some, px_psh_none, b154_30 hr, x4, Option.bind_some, px_psh_none, b154_36 hr, x5, Option.bind_some, px_psh_none, b154_42 hr, f6, hm]
    · have q19 := hR 19 (by omega) (by omega) (by omega) (by omega)
      exact ty_D_c (i := i) (l := l) (k123 _ (by omega)) (k123 _ (by omega)) (k123 _ (by omega)) (by rw [q19]) (by rw [q19]) (by rw [q19]) rfl rfl rfl (ty_gs_fr (fun k k0 k1 => hR k (by omega) (by omega) (by omega) (by omega))) hD
    · exact ty_H_same 0 124 (i := i) (l := l) (fun k k0 k1 => hR k (by omega) (by omega) (by omega) (by omega)) (hR _ (by omega) (by omega) (by omega) (by omega)) (k123 2 (by omega)) rfl (by omega) hc.2.1
    · exact ty_H_same 27 125 (i := i) (l := l) (fun k k0 k1 => hR k (by omega) (by omega) (by omega) (by omega)) (hR _ (by omega) (by omega) (by omega) (by omega)) (k123 2 (by omega)) rfl (by omega) hc.2.2.1
    · refine ⟨⟨by rw [f1, f6], by omega, by omega⟩, fun y y0 y1 => ?_, ?_, ?_, ?_⟩
      · rw [f6] at y1
        rw [f64]
        by_cases z5 : m + 16 ≤ y
        · have a := v5 y
          have b := u5 y
          rw [if_pos (by omega)] at a b
          rw [a, b, show y - j4 58 1 = y - (m + 16) by omega, show y - g4 123 6 = y - (m + 16) by omega]
          exact ⟨(ty_fo_b _ _).1, (ty_fo_b _ _).2, rfl⟩
        have a5 := v5 y
        have b5 := u5 y
        rw [if_neg (by omega)] at a5 b5
        rw [a5, b5]
        by_cases z4 : m + 12 ≤ y
        · have a := v4 y
          have b := u4 y
          rw [if_pos (by omega)] at a b
          rw [a, b, show y - j3 58 1 = y - (m + 12) by omega, show y - g3 123 6 = y - (m + 12) by omega]
          exact ⟨(ty_fo_b _ _).1, (ty_fo_b _ _).2, rfl⟩
        have a4 := v4 y
        have b4 := u4 y
        rw [if_neg (by omega)] at a4 b4
        rw [a4, b4]
        by_cases z3 : m + 8 ≤ y
        · have a := v3 y
          have b := u3 y
          rw [if_pos (by omega)] at a b
          rw [a, b, show y - j2 58 1 = y - (m + 8) by omega, show y - g2 123 6 = y - (m + 8) by omega]
          exact ⟨(ty_fo_b _ _).1, (ty_fo_b _ _).2, rfl⟩
        have a3 := v3 y
        have b3 := u3 y
        rw [if_neg (by omega)] at a3 b3
        rw [a3, b3]
        by_cases z2 : m + 4 ≤ y
        · have a := v2 y
          have b := u2 y
          rw [if_pos (by omega)] at a b
          rw [a, b, show y - j1 58 1 = y - (m + 4) by omega, show y - g1 123 6 = y - (m + 4) by omega]
          exact ⟨(ty_fo_b _ _).1, (ty_fo_b _ _).2, rfl⟩
        have a2 := v2 y
        have b2 := u2 y
        rw [if_neg (by omega)] at a2 b2
        rw [a2, b2]
        by_cases z1 : m ≤ y
        · have a := v1 y
          have b := u1 y
          rw [if_pos (by omega)] at a b
          rw [a, b, show y - i 58 1 = y - m by omega, show y - j5 123 6 = y - m by omega]
          exact ⟨(ty_fo_b _ _).1, (ty_fo_b _ _).2, rfl⟩
        have a1 := v1 y
        have b1 := u1 y
        rw [if_neg (by omega)] at a1 b1
        rw [a1, b1, f126]
        exact hT.2.1 y y0 (by omega)
      · rw [f58 2 (by omega)]
        exact hT.2.2.1
      · rw [f58 2 (by omega), k123 7 (by omega), k123 8 (by omega)]
        exact hT.2.2.2.1
      · rw [f58 2 (by omega), f58 3 (by omega), f58 4 (by omega), k123 7 (by omega), k123 8 (by omega)]
        exact hT.2.2.2.2
    · have hr4 := hR 4 (by omega) (by omega) (by omega) (by omega)
      exact ty_Y_c (i := i) (by omega) (by omega) (by rw [hR _ (by omega) (by omega) (by omega) (by omega)]) (by rw [hR _ (by omega) (by omega) (by omega) (by omega)]) (fun k k0 k1 => hR _ (by omega) (by omega) (by omega) (by omega)) (fun k k0 k1 => hR _ (by omega) (by omega) (by omega) (by omega)) (fun m m0 m1 => Or.inr ⟨by rw [hR _ (by omega) (by omega) (by omega) (by omega)], by rw [hr4], by rw [hr4], by rw [hr4]⟩) (by rw [hR _ (by omega) (by omega) (by omega) (by omega)]) (hR _ (by omega) (by omega) (by omega) (by omega)) hc.2.2.2.2
  · refine ⟨-1, i, l, i, l, ?_, ?_, hc', rfl, rfl⟩
    · rw [e7, b7_0 hr, e90, b90_0 hr, t6.1, w1, if_pos (by omega), Option.bind_some, px_psh_some, b7_9 hr, if_pos rfl]
    · rw [e154, b154_0 hr, w1, if_neg hin]
