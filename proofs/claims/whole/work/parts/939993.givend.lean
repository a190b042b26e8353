/-! Perches given: the class's places are the first of the best. -/
theorem tg_lex {i : MI} (hQ : ty_HG i) {who pl : Int → Int} {lv : Int} (hlv : 0 ≤ lv) : ∀ (n : Nat) (k s X D : Int) (room : Int → Int), (0 ≤ X ∧ X < 1024) → tg_set X who n k → (∀ x, k ≤ x → x < k + n → (0 ≤ who x ∧ who x < i 124 4) ∧ 0 ≤ pl x ∧ pl x < 9) → (∀ x y, k ≤ x → x < y → y < k + n → who x ≠ who y) → (∀ x, i 124 3 ≤ x → x < 8 → room x ≤ 0) → (∀ x, 0 ≤ x → x < 8 → 0 ≤ room x) → tg_rel i lv n room D →
    (∃ a : Int, (k ≤ a ∧ a < k + n) ∧ (∀ x, k ≤ x → x < a → pl x = tg_gs i lv who n k X room D x) ∧ pl a < tg_gs i lv who n k X room D a) →
    tg_wr i lv who pl n k room s = -1 ∨ s + tg_L i X D < tg_wr i lv who pl n k room s
  | 0, k, s, X, D, room, hX, hset, hw, hi, hz, hr, hrel, ⟨a, ha, _, _⟩ => by omega
  | n + 1, k, s, X, D, room, hX, hset, hw, hi, hz, hr, hrel, ⟨a, ha, heq, hlt⟩ => by
    have hk := hw k (Int.le_refl k) (by omega)
    have b4 := hQ.1
    have hwk : 0 ≤ who k ∧ who k < 10 := by omega
    have e1 : tg_gs i lv who (n + 1) k X room D k = tg_pl i lv (who k) (px_and X (px_xor (px_shl 1 (who k)) (-1))) room D (tg_L i X D) := if_pos rfl
    by_cases e : a = k
    · rw [e, e1] at hlt
      exact tg_first hQ hX hset hw hi hz hr hrel hlt
    · have hpk := heq k (Int.le_refl k) (by omega)
      rw [e1] at hpk
      have hrm := (th_rm (X := X) (k := who k) hX hwk).1
      obtain ⟨s1, s2⟩ := tg_step hQ hX hset (fun x x0 x1 => (hw x x0 x1).1) hi hz hr hrel hlv
      have hset' := tg_set_s hX hset hwk (fun x x0 x1 e => hi k x (Int.le_refl k) x0 x1 e.symm)
      have egs : ∀ x, x ≠ k → tg_gs i lv who (n + 1) k X room D x = tg_gs i lv who n (k + 1) (px_and X (px_xor (px_shl 1 (who k)) (-1))) (fun y => if y = pl k then room y - 1 else room y) (if tg_dp i lv (pl k) = true then D - 1 else D) x := fun x hx => by
        rw [hpk]
        exact if_neg hx
      rw [← hpk] at s1 s2
      have ih := tg_lex hQ hlv n (k + 1) (if tg_dp i lv (pl k) = true then s else s + tg_w i (who k)) (px_and X (px_xor (px_shl 1 (who k)) (-1))) (if tg_dp i lv (pl k) = true then D - 1 else D) (fun y => if y = pl k then room y - 1 else room y) hrm hset' (fun x x0 x1 => hw x (by omega) (by omega)) (fun x y x0 xy y1 => hi x y (by omega) xy (by omega)) (fun x x0 x1 => by
        have := hz x x0 x1
        show (if x = pl k then room x - 1 else room x) ≤ 0
        split <;> omega) (fun x x0 x1 => by
        have := hr x x0 x1
        show 0 ≤ if x = pl k then room x - 1 else room x
        by_cases ex : x = pl k
        · rw [if_pos ex]
          rcases s1 with h | h
          · omega
          · rw [← ex] at h
            omega
        · rw [if_neg ex]
          exact this) (tg_rel_s hrel hk.2) ⟨a, ⟨by omega, by omega⟩, fun x x0 x1 => by rw [heq x (by omega) x1, egs x (by omega)], by rw [← egs a e]; exact hlt⟩
      have ewr : tg_wr i lv who pl (n + 1) k room s = tg_wr i lv who pl n (k + 1) (fun y => if y = pl k then room y - 1 else room y) (if tg_dp i lv (pl k) = true then s else s + tg_w i (who k)) := if_pos s1
      rw [ewr]
      rcases ih with h | h
      · exact Or.inl h
      · right
        by_cases cd : tg_dp i lv (pl k) = true
        · rw [if_pos cd] at h s2 ⊢
          rw [if_pos cd] at h
          omega
        · rw [if_neg cd] at h s2 ⊢
          rw [if_neg cd] at h
          omega
