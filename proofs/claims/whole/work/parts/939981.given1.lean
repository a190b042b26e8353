/-! Perches given: the least that is wet (leastWet) as a function. -/
/-- in the order f, of those in X from the k-th on: the first D stay dry, the others are worth w each -/
def tg_lw (f w : Int → Int) (X : Int → Bool) : Nat → Int → Int → Int
  | 0, _, _ => 0
  | n + 1, k, D => if X (f k) = true then (if 0 < D then 0 else w (f k)) + tg_lw f w X n (k + 1) (D - 1) else tg_lw f w X n (k + 1) D
theorem tg_lw_n {f w : Int → Int} {X : Int → Bool} : ∀ (n : Nat) (k D D' : Int), D ≤ 0 → D' ≤ 0 → tg_lw f w X n k D = tg_lw f w X n k D'
  | 0, _, _, _, _, _ => rfl
  | n + 1, k, D, D', h, h' => by
    unfold tg_lw
    by_cases c : X (f k) = true
    · rw [if_pos c, if_pos c, if_neg (by omega), if_neg (by omega), tg_lw_n n (k + 1) (D - 1) (D' - 1) (by omega) (by omega)]
    · rw [if_neg c, if_neg c, tg_lw_n n (k + 1) D D' h h']
theorem tg_lw_l {f w : Int → Int} {X : Int → Bool} {M : Int} (hM : 0 ≤ M) : ∀ (n : Nat) (k D : Int), (∀ x, k ≤ x → x < k + n → w (f x) ≤ M) → tg_lw f w X n k (D - 1) ≤ M + tg_lw f w X n k D
  | 0, k, D, _ => by
    show (0 : Int) ≤ M + 0
    omega
  | n + 1, k, D, h => by
    have hk := h k (by omega) (by omega)
    have hr := fun D' => tg_lw_l (f := f) (w := w) (X := X) hM n (k + 1) D' (fun x x0 x1 => h x (by omega) (by omega))
    unfold tg_lw
    by_cases c : X (f k) = true
    · rw [if_pos c, if_pos c]
      by_cases d1 : 0 < D - 1
      · rw [if_pos d1, if_pos (by omega)]
        have := hr (D - 1)
        omega
      · rw [if_neg d1]
        by_cases d2 : 0 < D
        · rw [if_pos d2, tg_lw_n (f := f) (w := w) (X := X) n (k + 1) (D - 1 - 1) (D - 1) (by omega) (by omega)]
          omega
        · rw [if_neg d2]
          have := hr (D - 1)
          omega
    · rw [if_neg c, if_neg c]
      exact hr D
theorem tg_lw_0 {f w : Int → Int} {X : Int → Bool} : ∀ (n : Nat) (k D : Int), (∀ x, k ≤ x → x < k + n → 0 ≤ w (f x)) → 0 ≤ tg_lw f w X n k D
  | 0, _, _, _ => Int.le_refl 0
  | n + 1, k, D, h => by
    have hk := h k (by omega) (by omega)
    have hr := fun D' => tg_lw_0 (f := f) (w := w) (X := X) n (k + 1) D' (fun x x0 x1 => h x (by omega) (by omega))
    unfold tg_lw
    by_cases c : X (f k) = true
    · rw [if_pos c]
      have := hr (D - 1)
      by_cases d : 0 < D
      · rw [if_pos d]
        omega
      · rw [if_neg d]
        omega
    · rw [if_neg c]
      exact hr D
theorem tg_lw_c {f w : Int → Int} {X X' : Int → Bool} : ∀ (n : Nat) (k D : Int), (∀ x, k ≤ x → x < k + n → X' (f x) = X (f x)) → tg_lw f w X' n k D = tg_lw f w X n k D
  | 0, _, _, _ => rfl
  | n + 1, k, D, h => by
    unfold tg_lw
    rw [h k (by omega) (by omega), tg_lw_c n (k + 1) (D - 1) (fun x x0 x1 => h x (by omega) (by omega)), tg_lw_c n (k + 1) D (fun x x0 x1 => h x (by omega) (by omega))]
/-- one more -/
theorem tg_lw_1 {f w : Int → Int} {X X' : Int → Bool} {G p : Int} (hw : ∀ x, 0 ≤ x → x < G → 0 ≤ w (f x)) (hs : ∀ x y, 0 ≤ x → x < y → y < G → w (f y) ≤ w (f x)) (hX : X (f p) = false) (hX' : X' (f p) = true) (ho : ∀ x, 0 ≤ x → x < G → x ≠ p → X' (f x) = X (f x)) : ∀ (n : Nat) (k D : Int), 0 ≤ k → k ≤ p → p < G → k + n = G →
    tg_lw f w X' n k D = if 0 < D then min (tg_lw f w X n k (D - 1)) (w (f p) + tg_lw f w X n k D) else w (f p) + tg_lw f w X n k D
  | 0, k, D, h0, h1, h2, h3 => by omega
  | n + 1, k, D, h0, h1, h2, h3 => by
    by_cases e : k = p
    · have hc : ∀ D', tg_lw f w X' n (k + 1) D' = tg_lw f w X n (k + 1) D' := fun D' => tg_lw_c n (k + 1) D' (fun x x0 x1 => ho x (by omega) (by omega) (by omega))
      have eX : ∀ D', tg_lw f w X (n + 1) k D' = tg_lw f w X n (k + 1) D' := fun D' => by
        show (if X (f k) = true then _ else _) = _
        rw [e, if_neg (by rw [hX]; decide)]
      have eX' : tg_lw f w X' (n + 1) k D = (if 0 < D then 0 else w (f k)) + tg_lw f w X n (k + 1) (D - 1) := by
        show (if X' (f k) = true then (if 0 < D then 0 else w (f k)) + tg_lw f w X' n (k + 1) (D - 1) else _) = _
        rw [if_pos (by rw [e]; exact hX'), hc]
      rw [eX', eX, eX, e]
      have hp := hw p (by omega) h2
      by_cases d : 0 < D
      · rw [if_pos d, if_pos d]
        have := tg_lw_l (f := f) (w := w) (X := X) hp n (p + 1) D (fun x x0 x1 => hs p x (by omega) (by omega) (by omega))
        omega
      · rw [if_neg d, if_neg d, tg_lw_n (f := f) (w := w) (X := X) n (p + 1) (D - 1) D (by omega) (by omega)]
    · have ih := fun D' => tg_lw_1 hw hs hX hX' ho n (k + 1) D' (by omega) (by omega) h2 (by omega)
      have hk := ho k h0 (by omega) e
      by_cases c : X (f k) = true
      · have eX : ∀ D', tg_lw f w X (n + 1) k D' = (if 0 < D' then 0 else w (f k)) + tg_lw f w X n (k + 1) (D' - 1) := fun D' => by
          show (if X (f k) = true then _ else _) = _
          rw [if_pos c]
        have eX' : tg_lw f w X' (n + 1) k D = (if 0 < D then 0 else w (f k)) + tg_lw f w X' n (k + 1) (D - 1) := by
          show (if X' (f k) = true then _ else _) = _
          rw [hk, if_pos c]
        rw [eX', eX, eX, ih]
        have hsk := hs k p h0 (by omega) h2
        by_cases d : 0 < D
        · rw [if_pos d, if_pos d]
          by_cases d1 : 0 < D - 1
          · rw [if_pos d1, if_pos d1]
            omega
          · rw [if_neg d1, if_neg d1, tg_lw_n (f := f) (w := w) (X := X) n (k + 1) (D - 1 - 1) (D - 1) (by omega) (by omega)]
            omega
        · rw [if_neg d, if_neg d, if_neg (by omega)]
          omega
      · have eX : ∀ D', tg_lw f w X (n + 1) k D' = tg_lw f w X n (k + 1) D' := fun D' => by
          show (if X (f k) = true then _ else _) = _
          rw [if_neg c]
        have eX' : tg_lw f w X' (n + 1) k D = tg_lw f w X' n (k + 1) D := by
          show (if X' (f k) = true then _ else _) = _
          rw [hk, if_neg c]
        rw [eX', eX, eX, ih]
