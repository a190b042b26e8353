/-! Perches given: one guest more. -/
theorem tg_L_1 {i : MI} (hQ : ty_HG i) {g X : Int} (hX : 0 ≤ X ∧ X < 1024) (hg : 0 ≤ g ∧ g < i 124 4) (hb : ty_bit X g = true) (D : Int) :
    tg_L i X D = if 0 < D then min (tg_L i (px_and X (px_xor (px_shl 1 g) (-1))) (D - 1)) (tg_w i g + tg_L i (px_and X (px_xor (px_shl 1 g) (-1))) D) else tg_w i g + tg_L i (px_and X (px_xor (px_shl 1 g) (-1))) D := by
  have b4 := hQ.1
  have ho : ∀ x : Int, 0 ≤ x → x < i 124 4 → 0 ≤ i 17 x ∧ i 17 x < i 124 4 := hQ.2.2.2.2.1
  have hs : ∀ x y : Int, 0 ≤ x → x < y → y < i 124 4 → i 124 (120 + 14 * i 17 y) < i 124 (120 + 14 * i 17 x) ∨ (i 124 (120 + 14 * i 17 y) = i 124 (120 + 14 * i 17 x) ∧ i 17 x < i 17 y) := hQ.2.2.2.2.2
  obtain ⟨p, p0, p1, p2⟩ := ty_ord_all hQ hg
  have hrm := th_rm (X := X) (k := g) hX (by omega)
  have hne : ∀ x, 0 ≤ x → x < i 124 4 → x ≠ p → i 17 x ≠ g := fun x x0 x1 xp e => by
    by_cases c : x < p
    · have := hs x p x0 c p1
      rw [e, p2] at this
      omega
    · have := hs p x p0 (by omega) x1
      rw [e, p2] at this
      omega
  have h := tg_lw_1 (f := i 17) (w := tg_w i) (X := ty_bit (px_and X (px_xor (px_shl 1 g) (-1)))) (X' := ty_bit X) (G := i 124 4) (p := p) (fun x x0 x1 => by
    have h := (th_rk_b hQ (ho x x0 x1)).2
    have e : tg_w i (i 17 x) = th_rk i (i 17 x) + 1 := rfl
    omega) (fun x y x0 xy y1 => by
    have h := hs x y x0 xy y1
    have e1 : tg_w i (i 17 x) = i 124 (120 + 14 * i 17 x) + 1 := rfl
    have e2 : tg_w i (i 17 y) = i 124 (120 + 14 * i 17 y) + 1 := rfl
    omega) (by
    rw [p2, hrm.2 g hg.1 (by omega), decide_eq_false (fun h => h rfl), Bool.and_false]) (by rw [p2]; exact hb) (fun x x0 x1 xp => by
    have := ho x x0 x1
    rw [hrm.2 (i 17 x) this.1 (by omega), decide_eq_true (hne x x0 x1 xp), Bool.and_true]) (i 124 4).toNat 0 D (Int.le_refl 0) p0 p1 (by omega)
  rw [p2] at h
  exact h
/-- a dry place less -/
theorem tg_sd_u {room : Int → Int} {dry : Int → Bool} {q : Int} : ∀ (n : Nat) (p : Int), tg_sd (fun y => if y = q then room y - 1 else room y) dry n p = tg_sd room dry n p - (if p ≤ q ∧ q < p + n ∧ dry q = true then 1 else 0)
  | 0, p => by
    rw [if_neg (fun h => by omega)]
    rfl
  | n + 1, p => by
    have ih := tg_sd_u (room := room) (dry := dry) (q := q) n (p + 1)
    show (if dry p = true then (if p = q then room p - 1 else room p) else 0) + tg_sd (fun y => if y = q then room y - 1 else room y) dry n (p + 1) = (if dry p = true then room p else 0) + tg_sd room dry n (p + 1) - _
    rw [ih]
    by_cases e : p = q
    · rw [if_pos e, if_neg (show ¬ (p + 1 ≤ q ∧ q < p + 1 + n ∧ dry q = true) from fun h => by omega)]
      by_cases c : dry p = true
      · rw [if_pos c, if_pos c, if_pos (show p ≤ q ∧ q < p + ((n + 1 : Nat) : Int) ∧ dry q = true from ⟨by omega, by omega, by rw [← e]; exact c⟩)]
        omega
      · rw [if_neg c, if_neg c, if_neg (show ¬ (p ≤ q ∧ q < p + ((n + 1 : Nat) : Int) ∧ dry q = true) from fun h => c (by rw [e]; exact h.2.2))]
        omega
    · rw [if_neg e]
      by_cases c : p + 1 ≤ q ∧ q < p + 1 + n ∧ dry q = true
      · rw [if_pos c, if_pos (show p ≤ q ∧ q < p + ((n + 1 : Nat) : Int) ∧ dry q = true from ⟨by omega, by omega, c.2.2⟩)]
        omega
      · rw [if_neg c, if_neg (show ¬ (p ≤ q ∧ q < p + ((n + 1 : Nat) : Int) ∧ dry q = true) from fun h => c ⟨by omega, by omega, h.2.2⟩)]
        omega
theorem tg_sd_1 {room : Int → Int} {dry : Int → Bool} {q : Int} (hr : 0 < room q) (hd : dry q = true) : ∀ (n : Nat) (p : Int), (∀ x, p ≤ x → x < p + n → 0 ≤ room x) → p ≤ q → q < p + n → 0 < tg_sd room dry n p
  | 0, p, _, h1, h2 => by omega
  | n + 1, p, h, h1, h2 => by
    have hp := h p (by omega) (by omega)
    have nn : ∀ (m : Nat) (y : Int), (∀ x, y ≤ x → x < y + m → 0 ≤ room x) → 0 ≤ tg_sd room dry m y := fun m => by
      induction m with
      | zero => intro y _; exact Int.le_refl 0
      | succ m ih =>
        intro y hy
        have a := ih (y + 1) (fun x x0 x1 => hy x (by omega) (by omega))
        have b := hy y (by omega) (by omega)
        show 0 ≤ (if dry y = true then room y else 0) + tg_sd room dry m (y + 1)
        split <;> omega
    have hrest := nn n (p + 1) (fun x x0 x1 => h x (by omega) (by omega))
    show 0 < (if dry p = true then room p else 0) + tg_sd room dry n (p + 1)
    by_cases e : p = q
    · rw [e, if_pos hd]
      rw [e] at hrest
      omega
    · have := tg_sd_1 hr hd n (p + 1) (fun x x0 x1 => h x (by omega) (by omega)) (by omega) (by omega)
      split <;> omega
