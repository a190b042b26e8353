/-! Perches given: the class's place leaves no more wet. -/
theorem tg_pf_no {room : Int → Int} {dry : Int → Bool} {own D wet : Int} {Lw : Int → Int} : ∀ (n : Nat) (p : Int), 0 ≤ p → p + n ≤ 8 → tg_pf room dry own Lw D wet n p = 8 → ∀ x, p ≤ x → x < p + n → ¬ (0 < room x ∧ (if dry x = true then Lw (D - 1) else own + Lw D) ≤ wet)
  | 0, _, _, _, _, x, x0, x1 => by omega
  | n + 1, p, h0, h8, h, x, x0, x1 => by
    unfold tg_pf at h
    by_cases c : 0 < room p ∧ (if dry p = true then Lw (D - 1) else own + Lw D) ≤ wet
    · rw [if_pos c] at h
      omega
    · rw [if_neg c] at h
      by_cases e : x = p
      · rw [e]
        exact c
      · exact tg_pf_no n (p + 1) (by omega) (by omega) h x (by omega) (by omega)
theorem tg_pf_y {room : Int → Int} {dry : Int → Bool} {own D wet : Int} {Lw : Int → Int} : ∀ (n : Nat) (p : Int), tg_pf room dry own Lw D wet n p = 8 ∨ (if dry (tg_pf room dry own Lw D wet n p) = true then Lw (D - 1) else own + Lw D) ≤ wet
  | 0, _ => Or.inl rfl
  | n + 1, p => by
    unfold tg_pf
    by_cases c : 0 < room p ∧ (if dry p = true then Lw (D - 1) else own + Lw D) ≤ wet
    · rw [if_pos c]
      exact Or.inr c.2
    · rw [if_neg c]
      exact tg_pf_y n (p + 1)
/-- a dry perch with room -/
theorem tg_sd_x {room : Int → Int} {dry : Int → Bool} : ∀ (n : Nat) (p : Int), 0 < tg_sd room dry n p → ∃ x, (p ≤ x ∧ x < p + n) ∧ 0 < room x ∧ dry x = true
  | 0, p, h => by
    have : tg_sd room dry 0 p = 0 := rfl
    omega
  | n + 1, p, h => by
    have h' : 0 < (if dry p = true then room p else 0) + tg_sd room dry n (p + 1) := h
    by_cases c : dry p = true ∧ 0 < room p
    · exact ⟨p, ⟨by omega, by omega⟩, c.2, c.1⟩
    · have : 0 < tg_sd room dry n (p + 1) := by
        by_cases cd : dry p = true
        · rw [if_pos cd] at h'
          have : ¬ 0 < room p := fun h => c ⟨cd, h⟩
          omega
        · rw [if_neg cd] at h'
          omega
      obtain ⟨x, ⟨x0, x1⟩, x2, x3⟩ := tg_sd_x n (p + 1) this
      exact ⟨x, ⟨by omega, by omega⟩, x2, x3⟩
/-- with room for all nothing is wet -/
theorem tg_L_z {i : MI} (hQ : ty_HG i) {who : Int → Int} : ∀ (n : Nat) (k X D : Int), (0 ≤ X ∧ X < 1024) → tg_set X who n k → (∀ x, k ≤ x → x < k + n → 0 ≤ who x ∧ who x < i 124 4) → (∀ x y, k ≤ x → x < y → y < k + n → who x ≠ who y) → (n : Int) ≤ D → tg_L i X D = 0
  | 0, k, X, D, hX, hset, hw, hi, hD => by
    have b4 := hQ.1
    have ho : ∀ x : Int, 0 ≤ x → x < i 124 4 → 0 ≤ i 17 x ∧ i 17 x < i 124 4 := hQ.2.2.2.2.1
    exact tg_lw_e _ _ _ (fun x x0 x1 => by
      have hx := ho x x0 (by omega)
      cases hb : ty_bit X (i 17 x) with
      | false => rfl
      | true =>
        obtain ⟨y, y0, y1, -⟩ := (hset (i 17 x) hx.1 (by omega)).mp hb
        omega)
  | n + 1, k, X, D, hX, hset, hw, hi, hD => by
    have b4 := hQ.1
    have hk := hw k (Int.le_refl k) (by omega)
    have hwk : 0 ≤ who k ∧ who k < 10 := by omega
    have hbk : ty_bit X (who k) = true := (hset (who k) hk.1 (by omega)).mpr ⟨k, Int.le_refl k, by omega, rfl⟩
    have hL := tg_L_1 hQ hX hk hbk D
    have hrm := (th_rm (X := X) (k := who k) hX hwk).1
    have ih := tg_L_z hQ n (k + 1) (px_and X (px_xor (px_shl 1 (who k)) (-1))) (D - 1) hrm (tg_set_s hX hset hwk (fun x x0 x1 e => hi k x (Int.le_refl k) x0 x1 e.symm)) (fun x x0 x1 => hw x (by omega) (by omega)) (fun x y x0 xy y1 => hi x y (by omega) xy (by omega)) (by omega)
    have hb := (tg_L_b hQ X D).1
    rw [if_pos (by omega), ih] at hL
    omega
