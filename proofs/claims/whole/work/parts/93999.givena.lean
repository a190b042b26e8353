/-! Perches given: a step of the class's deal. -/
theorem tg_step {i : MI} (hQ : ty_HG i) {who : Int → Int} {lv : Int} {n : Nat} {k X D : Int} {room : Int → Int} (hX : 0 ≤ X ∧ X < 1024) (hset : tg_set X who (n + 1) k) (hw : ∀ x, k ≤ x → x < k + ((n + 1 : Nat) : Int) → 0 ≤ who x ∧ who x < i 124 4) (hi : ∀ x y, k ≤ x → x < y → y < k + ((n + 1 : Nat) : Int) → who x ≠ who y) (hz : ∀ x, i 124 3 ≤ x → x < 8 → room x ≤ 0) (hr : ∀ x, 0 ≤ x → x < 8 → 0 ≤ room x) (hrel : tg_rel i lv (n + 1) room D) (hlv : 0 ≤ lv) :
    (tg_pl i lv (who k) (px_and X (px_xor (px_shl 1 (who k)) (-1))) room D (tg_L i X D) = 8 ∨ 0 < room (tg_pl i lv (who k) (px_and X (px_xor (px_shl 1 (who k)) (-1))) room D (tg_L i X D))) ∧
    (if tg_dp i lv (tg_pl i lv (who k) (px_and X (px_xor (px_shl 1 (who k)) (-1))) room D (tg_L i X D)) = true then tg_L i (px_and X (px_xor (px_shl 1 (who k)) (-1))) (D - 1) else tg_w i (who k) + tg_L i (px_and X (px_xor (px_shl 1 (who k)) (-1))) D) = tg_L i X D := by
  have b3 := hQ.2.1.2
  have b4 := hQ.1
  have hk := hw k (Int.le_refl k) (by omega)
  have hwk : 0 ≤ who k ∧ who k < 10 := by omega
  have hbk : ty_bit X (who k) = true := (hset (who k) hk.1 (by omega)).mpr ⟨k, Int.le_refl k, by omega, rfl⟩
  have hL := tg_L_1 hQ hX hk hbk D
  have hrm := (th_rm (X := X) (k := who k) hX hwk).1
  obtain ⟨X', hX'⟩ : ∃ X', X' = px_and X (px_xor (px_shl 1 (who k)) (-1)) := ⟨_, rfl⟩
  have hz' := tg_L_z hQ n (k + 1) X' (D - 1) (by rw [hX']; exact hrm) (by rw [hX']; exact tg_set_s hX hset hwk (fun x x0 x1 e => hi k x (Int.le_refl k) x0 x1 e.symm)) (fun x x0 x1 => hw x (by omega) (by omega)) (fun x y x0 xy y1 => hi x y (by omega) xy (by omega))
  have hLb := (tg_L_b hQ X D).1
  rw [← hX'] at hL ⊢
  obtain ⟨pl, hpl⟩ : ∃ pl, pl = tg_pl i lv (who k) X' room D (tg_L i X D) := ⟨_, rfl⟩
  have hb := tg_pf_b (room := room) (dry := tg_dr i lv) (own := tg_w i (who k)) (D := D) (wet := tg_L i X D) (Lw := tg_L i X') (i 124 3).toNat 0 (Int.le_refl 0)
  have hy := tg_pf_y (room := room) (dry := tg_dr i lv) (own := tg_w i (who k)) (D := D) (wet := tg_L i X D) (Lw := tg_L i X') (i 124 3).toNat 0
  have hno := tg_pf_no (room := room) (dry := tg_dr i lv) (own := tg_w i (who k)) (D := D) (wet := tg_L i X D) (Lw := tg_L i X') (i 124 3).toNat 0 (Int.le_refl 0) (by omega)
  have epf : tg_pf room (tg_dr i lv) (tg_w i (who k)) (tg_L i X') D (tg_L i X D) (i 124 3).toNat 0 = pl := hpl.symm
  rw [epf] at hb hy hno
  rw [← hpl]
  by_cases c8 : pl = 8
  · refine ⟨Or.inl c8, ?_⟩
    have hdp : tg_dp i lv pl = decide (lv ≤ 0) := if_pos c8
    rw [hdp]
    by_cases cl : lv ≤ 0
    · rw [if_pos (decide_eq_true cl)]
      have hn := hrel.1 cl
      have e := hz' (by omega)
      rw [if_pos (by omega), e] at hL
      omega
    · rw [if_neg (fun h => cl (of_decide_eq_true h))]
      by_cases hD : 0 < D
      · rw [if_pos hD] at hL
        have hsd := hrel.2 (by omega)
        rw [hsd] at hD
        obtain ⟨x, ⟨x0, x1⟩, x2, x3⟩ := tg_sd_x 8 0 hD
        have xP : x < i 124 3 := by
          by_cases c : x < i 124 3
          · exact c
          · have := hz x (by omega) (by omega)
            omega
        have := hno c8 x x0 (by omega)
        rw [if_pos x3] at this
        have h3 : ¬ tg_L i X' (D - 1) ≤ tg_L i X D := fun h => this ⟨x2, h⟩
        omega
      · rw [if_neg hD] at hL
        exact hL.symm
  · have hb' : 0 ≤ pl ∧ pl < 8 ∧ 0 < room pl := by
      rcases hb with e | ⟨a, b, c⟩
      · exact absurd e c8
      · exact ⟨a, by omega, c⟩
    refine ⟨Or.inr hb'.2.2, ?_⟩
    have hdp : tg_dp i lv pl = tg_dr i lv pl := if_neg c8
    have hy' : (if tg_dr i lv pl = true then tg_L i X' (D - 1) else tg_w i (who k) + tg_L i X' D) ≤ tg_L i X D := by
      rcases hy with e | a
      · exact absurd e c8
      · exact a
    rw [hdp]
    by_cases cd : tg_dr i lv pl = true
    · have hD := tg_dp_D hrel ⟨hb'.1, by omega⟩ hr (Or.inr hb'.2.2) (by rw [hdp]; exact cd)
      rw [if_pos cd] at hy' ⊢
      rw [if_pos hD] at hL
      omega
    · rw [if_neg cd] at hy' ⊢
      by_cases hD : 0 < D
      · rw [if_pos hD] at hL
        omega
      · rw [if_neg hD] at hL
        omega
