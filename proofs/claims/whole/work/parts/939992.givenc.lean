/-! Perches given: places before the class's don't fit, or leave more wet. -/
theorem tg_pf_lt {room : Int → Int} {dry : Int → Bool} {own D wet : Int} {Lw : Int → Int} : ∀ (n : Nat) (p : Int), ∀ x, p ≤ x → x < p + n → x < tg_pf room dry own Lw D wet n p → ¬ (0 < room x ∧ (if dry x = true then Lw (D - 1) else own + Lw D) ≤ wet)
  | 0, p, x, x0, x1, _ => by omega
  | n + 1, p, x, x0, x1, h => by
    unfold tg_pf at h
    by_cases c : 0 < room p ∧ (if dry p = true then Lw (D - 1) else own + Lw D) ≤ wet
    · rw [if_pos c] at h
      omega
    · rw [if_neg c] at h
      by_cases e : x = p
      · rw [e]
        exact c
      · exact tg_pf_lt n (p + 1) x (by omega) (by omega) h
theorem tg_first {i : MI} (hQ : ty_HG i) {who pl : Int → Int} {lv : Int} {n : Nat} {k s X D : Int} {room : Int → Int} (hX : 0 ≤ X ∧ X < 1024) (hset : tg_set X who (n + 1) k) (hw : ∀ x, k ≤ x → x < k + ((n + 1 : Nat) : Int) → (0 ≤ who x ∧ who x < i 124 4) ∧ 0 ≤ pl x ∧ pl x < 9) (hi : ∀ x y, k ≤ x → x < y → y < k + ((n + 1 : Nat) : Int) → who x ≠ who y) (hz : ∀ x, i 124 3 ≤ x → x < 8 → room x ≤ 0) (hr : ∀ x, 0 ≤ x → x < 8 → 0 ≤ room x) (hrel : tg_rel i lv (n + 1) room D)
    (hlt : pl k < tg_pl i lv (who k) (px_and X (px_xor (px_shl 1 (who k)) (-1))) room D (tg_L i X D)) : tg_wr i lv who pl (n + 1) k room s = -1 ∨ s + tg_L i X D < tg_wr i lv who pl (n + 1) k room s := by
  have b3 := hQ.2.1.2
  have b4 := hQ.1
  have hk := hw k (Int.le_refl k) (by omega)
  have hwk : 0 ≤ who k ∧ who k < 10 := by omega
  have hrm := (th_rm (X := X) (k := who k) hX hwk).1
  have hset' := tg_set_s hX hset hwk (fun x x0 x1 e => hi k x (Int.le_refl k) x0 x1 e.symm)
  obtain ⟨X', hX'⟩ : ∃ X', X' = px_and X (px_xor (px_shl 1 (who k)) (-1)) := ⟨_, rfl⟩
  rw [← hX'] at hlt hrm hset'
  have hlt' : pl k < tg_pf room (tg_dr i lv) (tg_w i (who k)) (tg_L i X') D (tg_L i X D) (i 124 3).toNat 0 := hlt
  have hle : tg_pf room (tg_dr i lv) (tg_w i (who k)) (tg_L i X') D (tg_L i X D) (i 124 3).toNat 0 ≤ 8 := by
    rcases tg_pf_b (room := room) (dry := tg_dr i lv) (own := tg_w i (who k)) (D := D) (wet := tg_L i X D) (Lw := tg_L i X') (i 124 3).toNat 0 (Int.le_refl 0) with e | ⟨a, b, -⟩
    · omega
    · omega
  have h8 : pl k ≠ 8 := by omega
  have ewr : tg_wr i lv who pl (n + 1) k room s = if pl k = 8 ∨ 0 < room (pl k) then tg_wr i lv who pl n (k + 1) (fun y => if y = pl k then room y - 1 else room y) (if tg_dp i lv (pl k) = true then s else s + tg_w i (who k)) else -1 := rfl
  rw [ewr]
  by_cases hf : 0 < room (pl k)
  · rw [if_pos (Or.inr hf)]
    have hP : pl k < i 124 3 := by
      by_cases c : pl k < i 124 3
      · exact c
      · have := hz (pl k) (by omega) (by omega)
        omega
    have hno := tg_pf_lt (i 124 3).toNat 0 (pl k) hk.2.1 (by omega) hlt'
    have hdp : tg_dp i lv (pl k) = tg_dr i lv (pl k) := if_neg h8
    rcases tg_lb hQ n (k + 1) (if tg_dp i lv (pl k) = true then s else s + tg_w i (who k)) X' (if tg_dp i lv (pl k) = true then D - 1 else D) (fun y => if y = pl k then room y - 1 else room y) hrm hset' (fun x x0 x1 => hw x (by omega) (by omega)) (fun x y x0 xy y1 => hi x y (by omega) xy (by omega)) (fun x x0 x1 => by
      have := hr x x0 x1
      show 0 ≤ if x = pl k then room x - 1 else room x
      by_cases e : x = pl k
      · rw [if_pos e]
        rw [← e] at hf
        omega
      · rw [if_neg e]
        exact this) (tg_rel_s hrel hk.2) with a | a
    · exact Or.inl a
    · right
      rw [hdp] at a ⊢
      by_cases cd : tg_dr i lv (pl k) = true
      · rw [if_pos cd] at a ⊢
        rw [if_pos cd] at a
        have h3 : ¬ tg_L i X' (D - 1) ≤ tg_L i X D := fun h => hno ⟨hf, by rw [if_pos cd]; exact h⟩
        omega
      · rw [if_neg cd] at a ⊢
        rw [if_neg cd] at a
        have h3 : ¬ tg_w i (who k) + tg_L i X' D ≤ tg_L i X D := fun h => hno ⟨hf, by rw [if_neg cd]; exact h⟩
        omega
  · rw [if_neg (fun h => by
      rcases h with h | h
      · exact h8 h
      · exact hf h)]
    exact Or.inl rfl
