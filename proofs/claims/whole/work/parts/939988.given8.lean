/-! Perches given: no places leave less wet than leastWet says. -/
theorem tg_lw_e {f w : Int → Int} {X : Int → Bool} : ∀ (n : Nat) (k D : Int), (∀ x, k ≤ x → x < k + n → X (f x) = false) → tg_lw f w X n k D = 0
  | 0, _, _, _ => rfl
  | n + 1, k, D, h => by
    unfold tg_lw
    rw [h k (by omega) (by omega), if_neg (by decide), tg_lw_e n (k + 1) D (fun x x0 x1 => h x (by omega) (by omega))]
def tg_rel (i : MI) (lv : Int) (n : Nat) (room : Int → Int) (D : Int) : Prop := (lv ≤ 0 → (n : Int) ≤ D) ∧ (0 < lv → D = tg_sd room (tg_dr i lv) 8 0)
theorem tg_rel_s {i : MI} {lv : Int} {n : Nat} {room : Int → Int} {D q : Int} (h : tg_rel i lv (n + 1) room D) (hq : 0 ≤ q ∧ q < 9) : tg_rel i lv n (fun y => if y = q then room y - 1 else room y) (if tg_dp i lv q = true then D - 1 else D) := by
  obtain ⟨h1, h2⟩ := h
  refine ⟨fun c => ?_, fun c => ?_⟩
  · have := h1 c
    split <;> omega
  · have e := h2 c
    rw [tg_sd_u 8 0]
    unfold tg_dp
    by_cases c8 : q = 8
    · rw [if_pos c8, if_neg (show ¬ decide (lv ≤ 0) = true from fun h => by have := of_decide_eq_true h; omega), if_neg (fun h => by omega), e, Int.sub_zero]
    · rw [if_neg c8]
      by_cases cd : tg_dr i lv q = true
      · rw [if_pos cd, if_pos (show (0 : Int) ≤ q ∧ q < 0 + ((8 : Nat) : Int) ∧ tg_dr i lv q = true from ⟨hq.1, by omega, cd⟩), e]
      · rw [if_neg cd, if_neg (fun h => cd h.2.2), e, Int.sub_zero]
theorem tg_dp_D {i : MI} {lv : Int} {n : Nat} {room : Int → Int} {D q : Int} (h : tg_rel i lv (n + 1) room D) (hq : 0 ≤ q ∧ q < 9) (hr : ∀ x, 0 ≤ x → x < 8 → 0 ≤ room x) (hf : q = 8 ∨ 0 < room q) (hd : tg_dp i lv q = true) : 0 < D := by
  obtain ⟨h1, h2⟩ := h
  by_cases c : lv ≤ 0
  · have := h1 c
    omega
  · have e := h2 (by omega)
    unfold tg_dp at hd
    by_cases c8 : q = 8
    · rw [if_pos c8] at hd
      have := of_decide_eq_true hd
      omega
    · rw [if_neg c8] at hd
      have hq0 : 0 < room q := by
        rcases hf with a | a
        · exact absurd a c8
        · exact a
      rw [e]
      exact tg_sd_1 hq0 hd 8 0 (fun x x0 x1 => hr x x0 (by omega)) hq.1 (by omega)
/-- those from the k-th on are what is in X -/
def tg_set (X : Int) (who : Int → Int) (n : Nat) (k : Int) : Prop := ∀ g, 0 ≤ g → g < 10 → (ty_bit X g = true ↔ ∃ x, k ≤ x ∧ x < k + n ∧ who x = g)
theorem tg_set_s {X : Int} {who : Int → Int} {n : Nat} {k : Int} (hX : 0 ≤ X ∧ X < 1024) (h : tg_set X who (n + 1) k) (hk : 0 ≤ who k ∧ who k < 10) (hi : ∀ x, k < x → x < k + ((n + 1 : Nat) : Int) → who x ≠ who k) : tg_set (px_and X (px_xor (px_shl 1 (who k)) (-1))) who n (k + 1) := by
  intro g g0 g1
  rw [(th_rm (X := X) (k := who k) hX hk).2 g g0 (by omega), Bool.and_eq_true, decide_eq_true_iff, h g g0 g1]
  constructor
  · rintro ⟨⟨x, x0, x1, x2⟩, ne⟩
    refine ⟨x, ?_, by omega, x2⟩
    by_cases e : x = k
    · rw [e] at x2
      exact absurd x2.symm ne
    · omega
  · rintro ⟨x, x0, x1, x2⟩
    refine ⟨⟨x, by omega, by omega, x2⟩, fun e => ?_⟩
    exact hi x (by omega) (by omega) (by rw [x2, e])
theorem tg_lb {i : MI} (hQ : ty_HG i) {lv : Int} {who pl : Int → Int} : ∀ (n : Nat) (k s X D : Int) (room : Int → Int), (0 ≤ X ∧ X < 1024) → tg_set X who n k → (∀ x, k ≤ x → x < k + n → (0 ≤ who x ∧ who x < i 124 4) ∧ 0 ≤ pl x ∧ pl x < 9) → (∀ x y, k ≤ x → x < y → y < k + n → who x ≠ who y) → (∀ x, 0 ≤ x → x < 8 → 0 ≤ room x) → tg_rel i lv n room D →
    tg_wr i lv who pl n k room s = -1 ∨ s + tg_L i X D ≤ tg_wr i lv who pl n k room s
  | 0, k, s, X, D, room, hX, hset, hwp, hi, hr, hrel => by
    have b4 := hQ.1
    have ho : ∀ x : Int, 0 ≤ x → x < i 124 4 → 0 ≤ i 17 x ∧ i 17 x < i 124 4 := hQ.2.2.2.2.1
    have e : tg_L i X D = 0 := tg_lw_e _ _ _ (fun x x0 x1 => by
      have hx := ho x x0 (by omega)
      cases hb : ty_bit X (i 17 x) with
      | false => rfl
      | true =>
        obtain ⟨y, y0, y1, -⟩ := (hset (i 17 x) hx.1 (by omega)).mp hb
        omega)
    rw [e]
    right
    show s + 0 ≤ s
    omega
  | n + 1, k, s, X, D, room, hX, hset, hwp, hi, hr, hrel => by
    have b4 := hQ.1
    have hk := hwp k (Int.le_refl k) (by omega)
    have hwk : 0 ≤ who k ∧ who k < 10 := by omega
    have hbk : ty_bit X (who k) = true := (hset (who k) hk.1.1 (by omega)).mpr ⟨k, Int.le_refl k, by omega, rfl⟩
    have hrm := (th_rm (X := X) (k := who k) hX hwk).1
    have hL := tg_L_1 hQ hX hk.1 hbk D
    have ewr : tg_wr i lv who pl (n + 1) k room s = if pl k = 8 ∨ 0 < room (pl k) then tg_wr i lv who pl n (k + 1) (fun y => if y = pl k then room y - 1 else room y) (if tg_dp i lv (pl k) = true then s else s + tg_w i (who k)) else -1 := rfl
    rw [ewr]
    by_cases hf : pl k = 8 ∨ 0 < room (pl k)
    · rw [if_pos hf]
      have ih := tg_lb hQ n (k + 1) (if tg_dp i lv (pl k) = true then s else s + tg_w i (who k)) (px_and X (px_xor (px_shl 1 (who k)) (-1))) (if tg_dp i lv (pl k) = true then D - 1 else D) (fun y => if y = pl k then room y - 1 else room y) hrm (tg_set_s hX hset hwk (fun x x0 x1 e => hi k x (Int.le_refl k) x0 x1 e.symm)) (fun x x0 x1 => hwp x (by omega) (by omega)) (fun x y x0 xy y1 => hi x y (by omega) xy (by omega)) (fun x x0 x1 => by
        have := hr x x0 x1
        show 0 ≤ if x = pl k then room x - 1 else room x
        by_cases e : x = pl k
        · rw [if_pos e]
          rcases hf with a | a
          · omega
          · rw [← e] at a
            omega
        · rw [if_neg e]
          exact this) (tg_rel_s hrel hk.2)
      rcases ih with a | a
      · exact Or.inl a
      · right
        by_cases hd : tg_dp i lv (pl k) = true
        · have hD := tg_dp_D hrel hk.2 hr hf hd
          rw [if_pos hd] at a ⊢
          rw [if_pos hd] at a
          rw [if_pos hD] at hL
          omega
        · rw [if_neg hd] at a ⊢
          rw [if_neg hd] at a
          by_cases hD : 0 < D
          · rw [if_pos hD] at hL
            omega
          · rw [if_neg hD] at hL
            omega
    · rw [if_neg hf]
      exact Or.inl rfl
