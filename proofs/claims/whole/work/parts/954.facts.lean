/-! What the memory holds once both objects are made. -/
theorem px_rfind_mem {k j v : Nat} : ∀ {l : List (Nat × Nat × Nat)}, px_rfind l k j = some v → (k, j, v) ∈ l
  | [], h => by cases h
  | q :: l, h => by
    unfold px_rfind at h
    cases h1 : Nat.beq q.1 k with
    | false =>
      rw [h1] at h
      exact List.mem_cons_of_mem _ (px_rfind_mem h)
    | true =>
      rw [h1] at h
      cases h2 : Nat.beq q.2.1 j with
      | false =>
        rw [h2] at h
        exact List.mem_cons_of_mem _ (px_rfind_mem h)
      | true =>
        rw [h2] at h
        have e1 := Nat.eq_of_beq_eq_true h1
        have e2 := Nat.eq_of_beq_eq_true h2
        have e3 : q.2.2 = v := Option.some.inj h
        have : q = (k, j, v) := by
          rw [← e1, ← e2, ← e3]
        rw [this]
        exact List.mem_cons_self
theorem z_hr_all : px_rlist.all (fun q => decide (zRm (fun _ _ => none) q.1 (q.2.1 : Int) = some q.2.2)) = true := by decide +kernel
theorem z_hr : px_hr (zRm (fun _ _ => none)) := fun k j v h => by
  have := List.all_eq_true.mp z_hr_all _ (px_rfind_mem h)
  exact of_decide_eq_true this
theorem z_T : zTm 0 ≤ 7302250 := by decide +kernel
section ZRD
variable (w h : Int) (i l : MI)
set_option maxRecDepth 100000 in
theorem zr_0 : ∀ x, zIm w h i 0 x = i 0 x := fun x => rfl
set_option maxRecDepth 100000 in
theorem zr_1 : ∀ x, zIm w h i 1 x = i 1 x := fun x => rfl
set_option maxRecDepth 100000 in
theorem zr_123_0 : zIm w h i 123 0 = zcl w := rfl
set_option maxRecDepth 100000 in
theorem zr_123_1 : zIm w h i 123 1 = zcl h := rfl
set_option maxRecDepth 100000 in
theorem zr_123_2 : zIm w h i 123 2 = px_w32 (zcl w * zcl h) := rfl
set_option maxRecDepth 100000 in
theorem zr_123_6 : zIm w h i 123 6 = 0 := rfl
set_option maxRecDepth 100000 in
theorem zr_123_7 : zIm w h i 123 7 = -1 := rfl
set_option maxRecDepth 100000 in
theorem zr_123_8 : zIm w h i 123 8 = -1 := rfl
set_option maxRecDepth 100000 in
theorem zr_19_0 : zIm w h i 19 0 = zmm w := rfl
set_option maxRecDepth 100000 in
theorem zr_124 : ∀ c, zIm w h i 124 c = if c = 6 then -1 else 0 := fun c => by
  by_cases e : c = 6
  · rw [if_pos e, e]
    rfl
  · rw [if_neg e]
    show (if 124 = 124 ∧ c = 6 then (-1 : Int) else 0) = 0
    exact if_neg (fun q => e q.2)
set_option maxRecDepth 100000 in
theorem zr_20 : ∀ c, zIm w h i 20 c = 0 := fun c => rfl
set_option maxRecDepth 100000 in
theorem zr_70 : ∀ c, zIm w h i 70 c = if 0 ≤ c ∧ c < ((1440 : Nat) : Int) then -1 else 0 := fun c => rfl
end ZRD
section ZRE
variable (w h : Int) (i l : MI)
set_option maxRecDepth 100000 in
theorem zr_19_1 : zIm w h i 19 1 = zmm h := rfl
set_option maxRecDepth 100000 in
theorem zf_107_116 (i : MI) : zI107_116 i 19 2 = i 19 2 := rfl
set_option maxRecDepth 100000 in
theorem zf_74_110 (i : MI) : zI74_110 i 19 2 = i 19 2 := rfl
set_option maxRecDepth 100000 in
theorem zf_120_103 (i : MI) : zI120_103 i 19 2 = i 19 2 := rfl
set_option maxRecDepth 100000 in
theorem zf_62_68 (i : MI) : zI62_68 i 19 2 = i 19 2 := rfl
set_option maxRecDepth 100000 in
theorem zf_89_58 (i : MI) : zI89_58 i 19 2 = i 19 2 := rfl
set_option maxRecDepth 100000 in
theorem zf_48_21 (i : MI) : zI48_21 i 19 2 = i 19 2 := rfl
set_option maxRecDepth 100000 in
theorem zf_48_22 (i : MI) : zI48_22 i 19 2 = i 19 2 := rfl
set_option maxRecDepth 100000 in
theorem zf_48_23 (i : MI) : zI48_23 i 19 2 = i 19 2 := rfl
set_option maxRecDepth 100000 in
theorem zf_48_24 (i : MI) : zI48_24 i 19 2 = i 19 2 := rfl
set_option maxRecDepth 100000 in
theorem zf_48_25 (i : MI) : zI48_25 i 19 2 = i 19 2 := rfl
set_option maxRecDepth 100000 in
theorem zf_48_26 (i : MI) : zI48_26 i 19 2 = i 19 2 := rfl
set_option maxRecDepth 100000 in
theorem zf_48_27 (i : MI) : zI48_27 i 19 2 = i 19 2 := rfl
set_option maxRecDepth 100000 in
theorem zf_48_28 (i : MI) : zI48_28 i 19 2 = i 19 2 := rfl
set_option maxRecDepth 100000 in
theorem zf_48_29 (i : MI) : zI48_29 i 19 2 = i 19 2 := rfl
set_option maxRecDepth 100000 in
theorem zf_48_30 (i : MI) : zI48_30 i 19 2 = i 19 2 := rfl
set_option maxRecDepth 100000 in
theorem zf_51_31 (W H : Int) (i : MI) : zI51_31 W H i 19 2 = i 19 2 := rfl
set_option maxRecDepth 100000 in
theorem zf_140 (w h : Int) (i : MI) : zI140_123 w h i 19 2 = i 19 2 := rfl
theorem zf_36_19 (W H : Int) (i : MI) : zI36_19 W H i 19 2 = px_w32 (W * H) := ty_up_eq
theorem zf_51_4 (W H : Int) (i : MI) : zI51_4 W H i 19 2 = px_w32 (W * H) := by
  unfold zI51_4
  rw [zf_48_30, ty_un_k (by decide), zf_48_29, ty_un_k (by decide), zf_48_28, ty_un_k (by decide), zf_48_27, ty_un_k (by decide), zf_48_26, ty_un_k (by decide), zf_48_25, ty_un_k (by decide), zf_48_24, ty_un_k (by decide), zf_48_23, ty_un_k (by decide), zf_48_22, ty_un_k (by decide), zf_48_21, ty_un_k (by decide), zf_36_19]
theorem zf_0 (w h : Int) (i : MI) : zI0_3 w h i 19 2 = px_w32 (zmm w * zmm h) := by
  unfold zI0_3
  rw [zf_107_116, ty_un_k (by decide), zf_74_110, ty_un_k (by decide), zf_120_103, ty_un_k (by decide), zf_62_68, ty_un_k (by decide), zf_89_58, ty_un_k (by decide), zf_51_31, ty_un_k (by decide), zf_51_4]
theorem zr_19_2 : zIm w h i 19 2 = px_w32 (zmm w * zmm h) := by
  unfold zIm
  rw [zf_140, ty_un_k (by decide), zf_0]
set_option maxRecDepth 100000 in
theorem zr_19_8 : zIm w h i 19 8 = 0 := rfl
set_option maxRecDepth 100000 in
theorem zr_46_8 : zIm w h i 46 8 = 0 := rfl
set_option maxRecDepth 100000 in
theorem zr_4_3 : zIm w h i 4 3 = 0 := rfl
set_option maxRecDepth 100000 in
theorem zr_4_4 : zIm w h i 4 4 = 0 := rfl
set_option maxRecDepth 100000 in
theorem zr_4_5 : zIm w h i 4 5 = 0 := rfl
set_option maxRecDepth 100000 in
theorem zr_4_6 : zIm w h i 4 6 = 0 := rfl
set_option maxRecDepth 100000 in
theorem zr_4_7 : zIm w h i 4 7 = 0 := rfl
set_option maxRecDepth 100000 in
theorem zr_4_9 : zIm w h i 4 9 = 0 := rfl
set_option maxRecDepth 100000 in
theorem zr_4_8 : zIm w h i 4 8 = -1 := rfl
set_option maxRecDepth 100000 in
theorem zr_31_3 : zIm w h i 31 3 = 0 := rfl
set_option maxRecDepth 100000 in
theorem zr_31_4 : zIm w h i 31 4 = 0 := rfl
set_option maxRecDepth 100000 in
theorem zr_31_5 : zIm w h i 31 5 = 0 := rfl
set_option maxRecDepth 100000 in
theorem zr_31_6 : zIm w h i 31 6 = 0 := rfl
set_option maxRecDepth 100000 in
theorem zr_31_7 : zIm w h i 31 7 = 0 := rfl
set_option maxRecDepth 100000 in
theorem zr_31_9 : zIm w h i 31 9 = 0 := rfl
set_option maxRecDepth 100000 in
theorem zr_31_8 : zIm w h i 31 8 = -1 := rfl
set_option maxRecDepth 100000 in
theorem zr_5_0 : zIm w h i 5 0 = 0 := rfl
set_option maxRecDepth 100000 in
theorem zr_32_0 : zIm w h i 32 0 = 0 := rfl
set_option maxRecDepth 100000 in
theorem zr_9_0 : zIm w h i 9 0 = 0 := rfl
set_option maxRecDepth 100000 in
theorem zr_9_1 : zIm w h i 9 1 = 0 := rfl
set_option maxRecDepth 100000 in
theorem zr_9_2 : zIm w h i 9 2 = 0 := rfl
set_option maxRecDepth 100000 in
theorem zr_36_0 : zIm w h i 36 0 = 0 := rfl
set_option maxRecDepth 100000 in
theorem zr_36_1 : zIm w h i 36 1 = 0 := rfl
set_option maxRecDepth 100000 in
theorem zr_36_2 : zIm w h i 36 2 = 0 := rfl
set_option maxRecDepth 100000 in
theorem zr_10 : ∀ c, zIm w h i 10 c = 0 := fun c => rfl
set_option maxRecDepth 100000 in
theorem zr_11 : ∀ c, zIm w h i 11 c = 0 := fun c => rfl
set_option maxRecDepth 100000 in
theorem zr_12 : ∀ c, zIm w h i 12 c = 0 := fun c => rfl
set_option maxRecDepth 100000 in
theorem zr_37 : ∀ c, zIm w h i 37 c = 0 := fun c => rfl
set_option maxRecDepth 100000 in
theorem zr_38 : ∀ c, zIm w h i 38 c = 0 := fun c => rfl
set_option maxRecDepth 100000 in
theorem zr_39 : ∀ c, zIm w h i 39 c = 0 := fun c => rfl
set_option maxRecDepth 100000 in
theorem zr_47 : ∀ c, zIm w h i 47 c = 0 := fun c => rfl
set_option maxRecDepth 100000 in
theorem zr_108 : ∀ c, zIm w h i 108 c = 0 := fun c => rfl
set_option maxRecDepth 100000 in
theorem zr_125 : ∀ c, zIm w h i 125 c = 0 := fun c => rfl
set_option maxRecDepth 100000 in
theorem zr_58_1 : zIm w h i 58 1 = 0 := rfl
set_option maxRecDepth 100000 in
theorem zr_58_2 : zIm w h i 58 2 = 0 := rfl
set_option maxRecDepth 100000 in
theorem zr_103_7 : zIm w h i 103 7 = 0 := rfl
set_option maxRecDepth 100000 in
theorem zl_19_3 : zLm w h l 19 3 = px_w64 (px_lshl 1 (px_w32 (zmm w * zmm h)) - 1) := rfl
set_option maxRecDepth 100000 in
theorem zl_19_4 : zLm w h l 19 4 = zbl (zmm w) (zmm h).toNat 0 := rfl
set_option maxRecDepth 100000 in
theorem zl_19_5 : zLm w h l 19 5 = px_lshl (zbl (zmm w) (zmm h).toNat 0) (px_w32 (zmm w - 1)) := rfl
set_option maxRecDepth 100000 in
theorem zl_19_7 : zLm w h l 19 7 = 0 := rfl
set_option maxRecDepth 100000 in
theorem zl_46_7 : zLm w h l 46 7 = 0 := rfl
set_option maxRecDepth 100000 in
theorem zr_gs : ∀ k, px_gs k → zIm w h i k 2 = 0 ∧ zIm w h i k 8 = 1 := fun k hk => by
  rcases px_gs_cases hk with e | e | e | e | e | e | e | e | e | e | e | e | e | e | e | e | e | e | e | e <;> subst e <;> exact ⟨rfl, rfl⟩
end ZRE
theorem z_mask_f : ∀ a b : Fin 5, px_w32 (((a.val : Int) + 2) * ((b.val : Int) + 2)) = ((a.val : Int) + 2) * ((b.val : Int) + 2) ∧ px_w64 (px_lshl 1 (px_w32 (((a.val : Int) + 2) * ((b.val : Int) + 2))) - 1) = 2 ^ (((a.val : Int) + 2) * ((b.val : Int) + 2)).toNat - 1 ∧
    (0 ≤ zbl ((a.val : Int) + 2) ((b.val : Int) + 2).toNat 0 ∧ 0 ≤ px_lshl (zbl ((a.val : Int) + 2) ((b.val : Int) + 2).toNat 0) (px_w32 ((a.val : Int) + 2 - 1)) ∧ zbl ((a.val : Int) + 2) ((b.val : Int) + 2).toNat 0 < 2 ^ (((a.val : Int) + 2) * ((b.val : Int) + 2)).toNat ∧ px_lshl (zbl ((a.val : Int) + 2) ((b.val : Int) + 2).toNat 0) (px_w32 ((a.val : Int) + 2 - 1)) < 2 ^ (((a.val : Int) + 2) * ((b.val : Int) + 2)).toNat) ∧
    ∀ c : Fin 36, (c.val : Int) < ((a.val : Int) + 2) * ((b.val : Int) + 2) → ty_bit (zbl ((a.val : Int) + 2) ((b.val : Int) + 2).toNat 0) (c.val : Int) = decide ((c.val : Int) % ((a.val : Int) + 2) = 0) ∧ ty_bit (px_lshl (zbl ((a.val : Int) + 2) ((b.val : Int) + 2).toNat 0) (px_w32 ((a.val : Int) + 2 - 1))) (c.val : Int) = decide ((c.val : Int) % ((a.val : Int) + 2) = (a.val : Int) + 2 - 1) := by decide +kernel
theorem z_mask {W H : Int} (hW : 2 ≤ W ∧ W ≤ 6) (hH : 2 ≤ H ∧ H ≤ 6) : px_w32 (W * H) = W * H ∧ px_w64 (px_lshl 1 (px_w32 (W * H)) - 1) = 2 ^ (W * H).toNat - 1 ∧
    (0 ≤ zbl W H.toNat 0 ∧ 0 ≤ px_lshl (zbl W H.toNat 0) (px_w32 (W - 1)) ∧ zbl W H.toNat 0 < 2 ^ (W * H).toNat ∧ px_lshl (zbl W H.toNat 0) (px_w32 (W - 1)) < 2 ^ (W * H).toNat) ∧
    ∀ c, 0 ≤ c → c < W * H → ty_bit (zbl W H.toNat 0) c = decide (c % W = 0) ∧ ty_bit (px_lshl (zbl W H.toNat 0) (px_w32 (W - 1))) c = decide (c % W = W - 1) := by
  have h := z_mask_f ⟨(W - 2).toNat, by omega⟩ ⟨(H - 2).toNat, by omega⟩
  dsimp only at h
  have eW : (((W - 2).toNat : Nat) : Int) + 2 = W := by omega
  have eH : (((H - 2).toNat : Nat) : Int) + 2 = H := by omega
  rw [eW, eH] at h
  obtain ⟨h1, h2, h3, h4⟩ := h
  refine ⟨h1, h2, h3, fun c c0 c1 => ?_⟩
  have hWH : W * H ≤ 36 := Int.mul_le_mul hW.2 hH.2 (by omega) (by omega)
  have hc := h4 ⟨c.toNat, by omega⟩
  dsimp only at hc
  rw [Int.toNat_of_nonneg c0] at hc
  exact hc c1
theorem z_H {o : Nat} {i l : MI} {A : Int → Int} (hA : ∀ c, A c = if c = 6 then -1 else 0) (hC : 4 ≤ i 123 2 ∧ i 123 2 ≤ 36) (h19 : i (19 + o) 8 = 0) (hl : l (19 + o) 7 = 0) (h20 : ∀ c, i (20 + o) c = 0) (h43 : i (4 + o) 3 = 0) (h44 : i (4 + o) 4 = 0) (h45 : i (4 + o) 5 = 0) (h46 : i (4 + o) 6 = 0) (h47 : i (4 + o) 7 = 0) (h48 : i (4 + o) 8 = -1) (h49 : i (4 + o) 9 = 0) (h5 : i (5 + o) 0 = 0) (h90 : i (9 + o) 0 = 0) (h91 : i (9 + o) 1 = 0) (h92 : i (9 + o) 2 = 0) (h10 : ∀ g, i (10 + o) g = 0) (h11 : ∀ g, i (11 + o) g = 0) (h12 : ∀ g, i (12 + o) g = 0) : ty_H o i l A := by
  have hz : ∀ c, c ≠ 6 → A c = 0 := fun c hc => by rw [hA, if_neg hc]
  have a6 : A 6 = -1 := by rw [hA, if_pos rfl]
  have a0 := hz 0 (by decide)
  have a1 := hz 1 (by decide)
  have a2 := hz 2 (by decide)
  have a3 := hz 3 (by decide)
  have a4 := hz 4 (by decide)
  have a5 := hz 5 (by decide)
  have a7 := hz 7 (by decide)
  have a8 := hz 8 (by decide)
  have a9 := hz 9 (by decide)
  have a10 := hz 10 (by decide)
  have hbit : ∀ g, ty_bit 0 g = false := fun g => Nat.zero_testBit _
  refine ⟨⟨?_, ?_, fun c c0 c1 => ?_⟩, ⟨?_, ?_, ?_, ?_, ?_, ?_, ?_, ?_⟩, fun p p0 p1 => by omega, fun g g0 g1 => by omega, ⟨fun x x0 x1 => by omega, fun x y x0 xy y1 => by omega⟩, fun x x0 x1 => by omega, fun k k0 k1 => by omega, ⟨?_, ?_, ?_, fun g g0 g1 => ⟨fun _ => ?_, fun h => by omega⟩, fun k g k0 k1 => by omega⟩⟩
  · omega
  · rw [hl]
    exact ⟨Int.le_refl 0, Int.pow_pos (by omega)⟩
  · rw [hl, hbit, h20, hz (20 + 2 * c) (by omega), hz (21 + 2 * c) (by omega), if_neg Bool.false_ne_true]
    omega
  · omega
  · omega
  · omega
  · omega
  · omega
  · omega
  · omega
  · omega
  · omega
  · omega
  · omega
  · rw [h92, hbit, h10, h11, h12]
    exact ⟨rfl, rfl, rfl, rfl⟩
