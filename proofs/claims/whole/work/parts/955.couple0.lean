/-! Once both objects are made, they are coupled. -/
theorem z_CR {w h : Int} {i l i1 : MI} (halw : ∀ x : Int, 0 ≤ x → x < 6 → i 1 x = tz_alw x) (c1 : ty_ch [125] (zIm w h i) i1) (p1 : ∀ x, i1 125 x = if 0 ≤ x ∧ x < 820 then zIm w h i 124 x else zIm w h i 125 x) : tz_CR 0 i1 (zLm w h l) := by
  have e : ∀ k, k ≠ 125 → i1 k = zIm w h i k := fun k hk => c1 k (fun q => hk (List.mem_singleton.mp q))
  have a124 : ∀ c, i1 124 c = if c = 6 then -1 else 0 := fun c => by rw [e 124 (by decide), zr_124]
  have a125 : ∀ c, i1 125 c = if c = 6 then -1 else 0 := fun c => by
    rw [p1]
    by_cases q : 0 ≤ c ∧ c < 820
    · rw [if_pos q, zr_124]
    · rw [if_neg q, zr_125, if_neg (by omega)]
  have hW := zcl_b w
  have hH := zcl_b h
  obtain ⟨m1, m2, m3, m4⟩ := z_mask hW hH
  have r0 : i1 123 0 = zcl w := by rw [e 123 (by decide), zr_123_0]
  have r1 : i1 123 1 = zcl h := by rw [e 123 (by decide), zr_123_1]
  have r2 : i1 123 2 = zcl w * zcl h := by rw [e 123 (by decide), zr_123_2, m1]
  have r6 : i1 123 6 = 0 := by rw [e 123 (by decide), zr_123_6]
  have r7 : i1 123 7 = -1 := by rw [e 123 (by decide), zr_123_7]
  have r8 : i1 123 8 = -1 := by rw [e 123 (by decide), zr_123_8]
  have hWH1 : zcl w * zcl h ≤ 6 * 6 := Int.mul_le_mul hW.2 hH.2 (by omega) (by omega)
  have hWH2 : 2 * 2 ≤ zcl w * zcl h := Int.mul_le_mul hW.1 hH.1 (by omega) (by omega)
  have hC : 4 ≤ i1 123 2 ∧ i1 123 2 ≤ 36 := by omega
  have l3 : zLm w h l 19 3 = 2 ^ (zcl w * zcl h).toNat - 1 := by rw [zl_19_3, zmm_cl, zmm_cl, m2]
  have l4 : zLm w h l 19 4 = zbl (zcl w) (zcl h).toNat 0 := by rw [zl_19_4, zmm_cl, zmm_cl]
  have l5 : zLm w h l 19 5 = px_lshl (zbl (zcl w) (zcl h).toNat 0) (px_w32 (zcl w - 1)) := by rw [zl_19_5, zmm_cl, zmm_cl]
  refine ⟨⟨⟨?_, ?_, ?_, ?_, ?_, ?_, ?_, ?_, fun c c0 c1 => ?_, fun k hk => ?_⟩, ?_, ?_, ⟨?_, fun x x0 x1 => ?_, ?_, fun _ => ⟨r7, r8⟩, fun q => ?_⟩, ⟨fun q hq => ?_, ?_, fun m m0 m1 => ?_, ?_, fun x x0 x1 => ?_⟩⟩, fun x x0 x1 => ?_⟩
  · rw [r0]
    exact hW
  · rw [r1]
    exact hH
  · rw [r0, r1, r2]
  · rw [r0, e 19 (by decide), zr_19_0, zmm_cl]
  · rw [r1, e 19 (by decide), zr_19_1, zmm_cl]
  · rw [r2, e 19 (by decide), zr_19_2, zmm_cl, zmm_cl, m1]
  · rw [r2, l3]
  · rw [r2, l4, l5]
    exact m3
  · rw [r2] at c1
    rw [r0, l4, l5]
    exact m4 c c0 c1
  · have hk2 : k ≠ 125 := by
      unfold px_gs at hk
      omega
    have := zr_gs w h i k hk
    rw [e k hk2]
    omega
  · exact z_H (o := 0) a124 hC (by show i1 19 8 = 0; rw [e 19 (by decide), zr_19_8]) (zl_19_7 w h l) (fun c => by show i1 20 c = 0; rw [e 20 (by decide), zr_20]) (by show i1 4 3 = 0; rw [e 4 (by decide), zr_4_3]) (by show i1 4 4 = 0; rw [e 4 (by decide), zr_4_4]) (by show i1 4 5 = 0; rw [e 4 (by decide), zr_4_5]) (by show i1 4 6 = 0; rw [e 4 (by decide), zr_4_6]) (by show i1 4 7 = 0; rw [e 4 (by decide), zr_4_7]) (by show i1 4 8 = -1; rw [e 4 (by decide), zr_4_8]) (by show i1 4 9 = 0; rw [e 4 (by decide), zr_4_9]) (by show i1 5 0 = 0; rw [e 5 (by decide), zr_5_0]) (by show i1 9 0 = 0; rw [e 9 (by decide), zr_9_0]) (by show i1 9 1 = 0; rw [e 9 (by decide), zr_9_1]) (by show i1 9 2 = 0; rw [e 9 (by decide), zr_9_2]) (fun g => by show i1 10 g = 0; rw [e 10 (by decide), zr_10]) (fun g => by show i1 11 g = 0; rw [e 11 (by decide), zr_11]) (fun g => by show i1 12 g = 0; rw [e 12 (by decide), zr_12])
  · exact z_H (o := 27) a125 hC (by show i1 46 8 = 0; rw [e 46 (by decide), zr_46_8]) (zl_46_7 w h l) (fun c => by show i1 47 c = 0; rw [e 47 (by decide), zr_47]) (by show i1 31 3 = 0; rw [e 31 (by decide), zr_31_3]) (by show i1 31 4 = 0; rw [e 31 (by decide), zr_31_4]) (by show i1 31 5 = 0; rw [e 31 (by decide), zr_31_5]) (by show i1 31 6 = 0; rw [e 31 (by decide), zr_31_6]) (by show i1 31 7 = 0; rw [e 31 (by decide), zr_31_7]) (by show i1 31 8 = -1; rw [e 31 (by decide), zr_31_8]) (by show i1 31 9 = 0; rw [e 31 (by decide), zr_31_9]) (by show i1 32 0 = 0; rw [e 32 (by decide), zr_32_0]) (by show i1 36 0 = 0; rw [e 36 (by decide), zr_36_0]) (by show i1 36 1 = 0; rw [e 36 (by decide), zr_36_1]) (by show i1 36 2 = 0; rw [e 36 (by decide), zr_36_2]) (fun g => by show i1 37 g = 0; rw [e 37 (by decide), zr_37]) (fun g => by show i1 38 g = 0; rw [e 38 (by decide), zr_38]) (fun g => by show i1 39 g = 0; rw [e 39 (by decide), zr_39])
  · rw [r6, e 58 (by decide), zr_58_1]
    omega
  · rw [r6] at x1
    omega
  · rw [e 58 (by decide), zr_58_2]
    exact Or.inl rfl
  · rw [e 58 (by decide), zr_58_2] at q
    exact absurd q (by decide)
  · have h5 : i1 124 5 = 0 := by rw [a124, if_neg (by decide)]
    rw [h5] at hq
    omega
  · rw [a124, a125]
    exact Int.le_refl _
  · rw [e 70 (by decide), zr_70, if_pos ⟨m0, by omega⟩]
    exact Or.inl rfl
  · rw [e 103 (by decide), zr_103_7]
    omega
  · rw [e 103 (by decide), zr_103_7, e 108 (by decide), zr_108]
    exact Int.le_refl 0
  · rw [e 1 (by decide), zr_1]
    exact halw x x0 x1
