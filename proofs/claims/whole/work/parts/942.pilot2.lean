/-! A pilot: how the shares go on. -/
def tq_cm (W C c s : Int) : Int := if ty_bes W C c s = -1 then c else ty_bes W C c s
def tq_pt (W C : Int) (A : Int → Int) (dr c s : Int) : Int := if ty_bes W C c s = tq_aim W C A c then 12 - 3 * dr else dr
/-- what comes to x from c by a side -/
def tq_k (W C : Int) (A : Int → Int) (dr : Int) (ok : Int → Bool) (p c s x : Int) : Int := if ok (tq_cm W C c s) = true ∧ x = tq_cm W C c s then tq_pt W C A dr c s * p else 0
def tq_cn (W C : Int) (A : Int → Int) (dr : Int) (ok : Int → Bool) (p c x : Int) : Int := tq_k W C A dr ok p c 0 x + tq_k W C A dr ok p c 3 x + tq_k W C A dr ok p c 1 x + tq_k W C A dr ok p c 2 x
def tq_K (W C : Int) (sh : Int → Bool) (A : Int → Int) (dr : Int) (ok : Int → Bool) (p : Int → Int) (c x : Int) : Int := if sh c = true then (if x = c then 12 * p c else 0) else tq_cn W C A dr ok (p c) c x
def tq_K2 (W C : Int) (sh : Int → Bool) (A : Int → Int) (dr : Int) (ok : Int → Bool) (p : Int → Int) (c x : Int) : Int := if sh c = true then 0 else tq_cn W C A dr ok (p c) c x
def tq_G (f : Int → Int → Int) : Nat → Int → Int
  | 0, _ => 0
  | n + 1, x => tq_G f n x + f (n : Int) x
def tq_S (q : Int → Int) : Nat → Int
  | 0 => 0
  | n + 1 => tq_S q n + q (n : Int)
/-- the shares after k steps -/
def tq_P (W C : Int) (sh : Int → Bool) (A : Int → Int) (dr a m pc : Int) (can : Int → Int → Bool) : Nat → Int → Int
  | 0 => fun x => if x = a then 1 else 0
  | k + 1 => fun x => tq_G (tq_K W C sh A dr (fun c => can c (m + ((k + 1 : Nat) : Int) * pc)) (tq_P W C sh A dr a m pc can k)) C.toNat x
theorem tq_S_a {f g : Int → Int} : ∀ n : Nat, tq_S (fun x => f x + g x) n = tq_S f n + tq_S g n
  | 0 => rfl
  | n + 1 => by
    show tq_S (fun x => f x + g x) n + (f n + g n) = (tq_S f n + f n) + (tq_S g n + g n)
    rw [tq_S_a n]
    omega
theorem tq_S_c {f g : Int → Int} : ∀ n : Nat, (∀ x, 0 ≤ x → x < (n : Int) → f x = g x) → tq_S f n = tq_S g n
  | 0, _ => rfl
  | n + 1, h => by
    show tq_S f n + f n = tq_S g n + g n
    rw [tq_S_c n (fun x x0 x1 => h x x0 (by omega)), h n (by omega) (by omega)]
theorem tq_S_1 {f : Int → Int} {e v : Int} (hv : 0 ≤ v) (h : ∀ x, x ≠ e → f x = 0) (he : f e ≤ v) : ∀ n : Nat, tq_S f n ≤ (if 0 ≤ e ∧ e < (n : Int) then v else 0)
  | 0 => by
    rw [if_neg (by omega)]
    exact Int.le_refl 0
  | n + 1 => by
    have ih := tq_S_1 hv h he n
    show tq_S f n + f n ≤ _
    by_cases c : (n : Int) = e
    · rw [if_neg (by omega)] at ih
      rw [if_pos (by omega), c]
      omega
    · rw [h n c]
      by_cases c1 : 0 ≤ e ∧ e < (n : Int)
      · rw [if_pos c1] at ih
        rw [if_pos (by omega)]
        omega
      · rw [if_neg c1] at ih
        rw [if_neg (by omega)]
        omega
theorem tq_S_1' {f : Int → Int} {e v : Int} (hv : 0 ≤ v) (h : ∀ x, x ≠ e → f x = 0) (he : f e ≤ v) (n : Nat) : tq_S f n ≤ v := by
  have := tq_S_1 hv h he n
  split at this <;> omega
theorem tq_S_0 {f : Int → Int} (h : ∀ x, 0 ≤ f x) : ∀ n : Nat, 0 ≤ tq_S f n
  | 0 => Int.le_refl 0
  | n + 1 => by
    have := tq_S_0 h n
    have h2 := h n
    show 0 ≤ tq_S f n + f n
    omega
theorem tq_S_x {f : Int → Int} (h : ∀ x, 0 ≤ f x) : ∀ (n : Nat) (x : Int), 0 ≤ x → x < (n : Int) → f x ≤ tq_S f n
  | 0, x, x0, x1 => by omega
  | n + 1, x, x0, x1 => by
    have h0 := tq_S_0 h n
    have hn := h n
    show f x ≤ tq_S f n + f n
    by_cases c : x = (n : Int)
    · rw [c]
      omega
    · have := tq_S_x h n x x0 (by omega)
      omega
theorem tq_S_m {f : Int → Int} (h : ∀ x, 0 ≤ f x) {n : Nat} : ∀ k : Nat, tq_S f n ≤ tq_S f (n + k)
  | 0 => Int.le_refl _
  | k + 1 => by
    have := tq_S_m (n := n) h k
    have h2 := h ((n + k : Nat) : Int)
    show tq_S f n ≤ tq_S f (n + k) + f ((n + k : Nat) : Int)
    omega
/-- the sides lead to different cells -/
theorem tq_ne {W C c s u : Int} (hW : 2 ≤ W) (hs : s = 0 ∨ s = 1 ∨ s = 2 ∨ s = 3) (hu : u = 0 ∨ u = 1 ∨ u = 2 ∨ u = 3) (h : s ≠ u) (hb : ty_bes W C c s ≠ -1) : ty_bes W C c u ≠ ty_bes W C c s := by
  unfold ty_bes at hb ⊢
  rcases hs with q | q | q | q <;> subst q <;> rcases hu with w | w | w | w <;> subst w <;> simp only [Int.reduceEq, ↓reduceIte] at hb ⊢ <;> (repeat' split) <;> (repeat' split at hb) <;> omega
theorem tq_pt_s {W C : Int} {A : Int → Int} {dr c : Int} (hW : 2 ≤ W) (ha : tq_aim W C A c ≠ -1) : tq_pt W C A dr c 0 + tq_pt W C A dr c 3 + tq_pt W C A dr c 1 + tq_pt W C A dr c 2 = 12 := by
  unfold tq_pt
  rcases tq_aim_b (W := W) (C := C) (A := A) (c := c) with h | h | h | h | h
  · exact absurd h ha
  · rw [h] at ha ⊢
    rw [if_pos rfl, if_neg (tq_ne hW (by omega) (by omega) (by decide) ha), if_neg (tq_ne hW (by omega) (by omega) (by decide) ha), if_neg (tq_ne hW (by omega) (by omega) (by decide) ha)]
    omega
  · rw [h] at ha ⊢
    rw [if_neg (tq_ne hW (by omega) (by omega) (by decide) ha), if_neg (tq_ne hW (by omega) (by omega) (by decide) ha), if_pos rfl, if_neg (tq_ne hW (by omega) (by omega) (by decide) ha)]
    omega
  · rw [h] at ha ⊢
    rw [if_neg (tq_ne hW (by omega) (by omega) (by decide) ha), if_neg (tq_ne hW (by omega) (by omega) (by decide) ha), if_neg (tq_ne hW (by omega) (by omega) (by decide) ha), if_pos rfl]
    omega
  · rw [h] at ha ⊢
    rw [if_neg (tq_ne hW (by omega) (by omega) (by decide) ha), if_pos rfl, if_neg (tq_ne hW (by omega) (by omega) (by decide) ha), if_neg (tq_ne hW (by omega) (by omega) (by decide) ha)]
    omega
theorem tq_pt_b {W C : Int} {A : Int → Int} {dr c s : Int} (hd : 0 ≤ dr ∧ dr ≤ 3) : 0 ≤ tq_pt W C A dr c s ∧ tq_pt W C A dr c s ≤ 12 := by
  unfold tq_pt
  split <;> omega
theorem tq_k_b {W C : Int} {A : Int → Int} {dr : Int} {ok : Int → Bool} {p c s x : Int} (hd : 0 ≤ dr ∧ dr ≤ 3) (hp : 0 ≤ p) : 0 ≤ tq_k W C A dr ok p c s x := by
  unfold tq_k
  split
  · exact Int.mul_nonneg (tq_pt_b hd).1 hp
  · exact Int.le_refl 0
theorem tq_k_S {W C : Int} {A : Int → Int} {dr : Int} {ok : Int → Bool} {p c s : Int} (hd : 0 ≤ dr ∧ dr ≤ 3) (hp : 0 ≤ p) (n : Nat) : tq_S (tq_k W C A dr ok p c s) n ≤ tq_pt W C A dr c s * p := by
  have hv : 0 ≤ tq_pt W C A dr c s * p := Int.mul_nonneg (tq_pt_b hd).1 hp
  refine tq_S_1' (e := tq_cm W C c s) hv (fun x hx => if_neg (fun h => hx h.2)) ?_ n
  split
  · exact Int.le_refl _
  · exact hv
theorem tq_cn_b {W C : Int} {A : Int → Int} {dr : Int} {ok : Int → Bool} {p c x : Int} (hd : 0 ≤ dr ∧ dr ≤ 3) (hp : 0 ≤ p) : 0 ≤ tq_cn W C A dr ok p c x := by
  have h0 := tq_k_b (W := W) (C := C) (A := A) (ok := ok) (c := c) (s := 0) (x := x) hd hp
  have h1 := tq_k_b (W := W) (C := C) (A := A) (ok := ok) (c := c) (s := 1) (x := x) hd hp
  have h2 := tq_k_b (W := W) (C := C) (A := A) (ok := ok) (c := c) (s := 2) (x := x) hd hp
  have h3 := tq_k_b (W := W) (C := C) (A := A) (ok := ok) (c := c) (s := 3) (x := x) hd hp
  unfold tq_cn
  omega
theorem tq_cn_S {W C : Int} {A : Int → Int} {dr : Int} {ok : Int → Bool} {p c : Int} (hW : 2 ≤ W) (hd : 0 ≤ dr ∧ dr ≤ 3) (hp : 0 ≤ p) (ha : tq_aim W C A c ≠ -1) (n : Nat) : tq_S (tq_cn W C A dr ok p c) n ≤ 12 * p := by
  have e : tq_S (tq_cn W C A dr ok p c) n = tq_S (tq_k W C A dr ok p c 0) n + tq_S (tq_k W C A dr ok p c 3) n + tq_S (tq_k W C A dr ok p c 1) n + tq_S (tq_k W C A dr ok p c 2) n := by
    rw [← tq_S_a, ← tq_S_a, ← tq_S_a]
    rfl
  have h0 := tq_k_S (W := W) (C := C) (A := A) (ok := ok) (c := c) (s := 0) hd hp n
  have h1 := tq_k_S (W := W) (C := C) (A := A) (ok := ok) (c := c) (s := 1) hd hp n
  have h2 := tq_k_S (W := W) (C := C) (A := A) (ok := ok) (c := c) (s := 2) hd hp n
  have h3 := tq_k_S (W := W) (C := C) (A := A) (ok := ok) (c := c) (s := 3) hd hp n
  have h4 := tq_pt_s (dr := dr) (c := c) hW ha
  have h5 : 12 * p = tq_pt W C A dr c 0 * p + tq_pt W C A dr c 3 * p + tq_pt W C A dr c 1 * p + tq_pt W C A dr c 2 * p := by
    rw [← Int.add_mul, ← Int.add_mul, ← Int.add_mul, h4]
  rw [e, h5]
  omega
section TQK
variable {W C : Int} {sh : Int → Bool} {A : Int → Int} {dr : Int} {ok : Int → Bool} {p : Int → Int}
theorem tq_K_b (hd : 0 ≤ dr ∧ dr ≤ 3) (hp : ∀ x, 0 ≤ p x) (c x : Int) : 0 ≤ tq_K W C sh A dr ok p c x := by
  have h := hp c
  unfold tq_K
  split
  · split <;> omega
  · exact tq_cn_b hd h
theorem tq_K2_b (hd : 0 ≤ dr ∧ dr ≤ 3) (hp : ∀ x, 0 ≤ p x) (c x : Int) : 0 ≤ tq_K2 W C sh A dr ok p c x := by
  have h := hp c
  unfold tq_K2
  split
  · exact Int.le_refl 0
  · exact tq_cn_b hd h
theorem tq_K_S (hW : 2 ≤ W) (hd : 0 ≤ dr ∧ dr ≤ 3) (hp : ∀ x, 0 ≤ p x) {c : Int} (ha : sh c = false → tq_aim W C A c ≠ -1) (n : Nat) : tq_S (tq_K W C sh A dr ok p c) n ≤ 12 * p c := by
  have h := hp c
  by_cases hs : sh c = true
  · have e : tq_K W C sh A dr ok p c = fun x => if x = c then 12 * p c else 0 := funext fun x => if_pos hs
    rw [e]
    exact tq_S_1' (e := c) (by omega) (fun x hx => if_neg hx) (by show (if c = c then 12 * p c else 0) ≤ _; rw [if_pos rfl]; omega) n
  · have e : tq_K W C sh A dr ok p c = tq_cn W C A dr ok (p c) c := funext fun x => if_neg hs
    rw [e]
    exact tq_cn_S hW hd h (ha (by cases hb : sh c with | false => rfl | true => exact absurd hb hs)) n
theorem tq_G_b {f : Int → Int → Int} (h : ∀ c x, 0 ≤ f c x) : ∀ (n : Nat) (x : Int), 0 ≤ tq_G f n x
  | 0, _ => Int.le_refl 0
  | n + 1, x => by
    have := tq_G_b h n x
    have h2 := h n x
    show 0 ≤ tq_G f n x + f n x
    omega
theorem tq_G_m {f : Int → Int → Int} (h : ∀ c x, 0 ≤ f c x) {n : Nat} {x : Int} : ∀ k : Nat, tq_G f n x ≤ tq_G f (n + k) x
  | 0 => Int.le_refl _
  | k + 1 => by
    have := tq_G_m (n := n) (x := x) h k
    have h2 := h ((n + k : Nat) : Int) x
    show tq_G f n x ≤ tq_G f (n + k) x + f ((n + k : Nat) : Int) x
    omega
theorem tq_G_le {f : Int → Int → Int} (h : ∀ c x, 0 ≤ f c x) {n m : Nat} {x : Int} (hn : n ≤ m) : tq_G f n x ≤ tq_G f m x := by
  have := tq_G_m (n := n) (x := x) h (m - n)
  rw [show n + (m - n) = m by omega] at this
  exact this
/-- all together at most twelve times as much -/
theorem tq_G_S (hW : 2 ≤ W) (hd : 0 ≤ dr ∧ dr ≤ 3) (hp : ∀ x, 0 ≤ p x) (m : Nat) : ∀ n : Nat, (∀ c, 0 ≤ c → c < (n : Int) → sh c = false → tq_aim W C A c ≠ -1) → tq_S (tq_G (tq_K W C sh A dr ok p) n) m ≤ 12 * tq_S p n
  | 0, _ => by
    have e : tq_S (tq_G (tq_K W C sh A dr ok p) 0) m = 0 := by
      have key : ∀ m : Nat, tq_S (fun _ => (0 : Int)) m = 0 := fun m => by
        induction m with
        | zero => rfl
        | succ m ih =>
          show tq_S (fun _ => (0 : Int)) m + 0 = 0
          rw [ih]
          rfl
      exact key m
    rw [e]
    exact Int.le_refl 0
  | n + 1, ha => by
    have ih := tq_G_S hW hd hp m n (fun c c0 c1 => ha c c0 (by omega))
    have h1 := tq_K_S (ok := ok) hW hd hp (c := (n : Int)) (ha n (by omega) (by omega)) m
    have e : tq_S (tq_G (tq_K W C sh A dr ok p) (n + 1)) m = tq_S (tq_G (tq_K W C sh A dr ok p) n) m + tq_S (tq_K W C sh A dr ok p (n : Int)) m := tq_S_a m
    have e2 : tq_S p (n + 1) = tq_S p n + p n := rfl
    rw [e, e2]
    omega
/-- the shores' shares apart -/
theorem tq_G_2 {x : Int} (hx : 0 ≤ x) : ∀ n : Nat, tq_G (tq_K W C sh A dr ok p) n x = (if x < (n : Int) ∧ sh x = true then 12 * p x else 0) + tq_G (tq_K2 W C sh A dr ok p) n x
  | 0 => by
    rw [if_neg (by omega)]
    rfl
  | n + 1 => by
    have ih := tq_G_2 hx n
    show tq_G (tq_K W C sh A dr ok p) n x + tq_K W C sh A dr ok p n x = _ + (tq_G (tq_K2 W C sh A dr ok p) n x + tq_K2 W C sh A dr ok p n x)
    rw [ih]
    unfold tq_K tq_K2
    by_cases hs : sh (n : Int) = true
    · rw [if_pos hs, if_pos hs]
      by_cases e : x = (n : Int)
      · rw [if_pos e, if_neg (show ¬ (x < (n : Int) ∧ sh x = true) from fun h => by omega), if_pos (show x < ((n + 1 : Nat) : Int) ∧ sh x = true from ⟨by omega, by rw [e]; exact hs⟩), e]
        omega
      · rw [if_neg e]
        by_cases c : x < (n : Int) ∧ sh x = true
        · rw [if_pos c, if_pos (show x < ((n + 1 : Nat) : Int) ∧ sh x = true from ⟨by omega, c.2⟩)]
          omega
        · rw [if_neg c, if_neg (show ¬ (x < ((n + 1 : Nat) : Int) ∧ sh x = true) from fun h => c ⟨by omega, h.2⟩)]
          omega
    · rw [if_neg hs, if_neg hs]
      by_cases c : x < (n : Int) ∧ sh x = true
      · rw [if_pos c, if_pos (show x < ((n + 1 : Nat) : Int) ∧ sh x = true from ⟨by omega, c.2⟩)]
        omega
      · rw [if_neg c, if_neg (show ¬ (x < ((n + 1 : Nat) : Int) ∧ sh x = true) from fun h => c ⟨by
          by_cases e : x = (n : Int)
          · rw [e] at h
            exact absurd h.2 hs
          · omega, h.2⟩)]
        omega
end TQK
theorem tq_12 {k : Nat} (h : k ≤ 10) : 1 ≤ 12 ^ k ∧ 12 ^ k ≤ 61917364224 := ⟨Nat.pow_pos (by decide), Nat.pow_le_pow_right (n := 12) (by decide) h⟩
theorem tq_w12 {k : Nat} (h : k ≤ 9) : px_w64 (((12 ^ k : Nat) : Int) * 12) = ((12 ^ (k + 1) : Nat) : Int) := by
  have h2 := tq_12 (k := k) (by omega)
  rw [Nat.pow_succ, ty_w6 (by omega)]
  omega
theorem tq_P_b {W C : Int} {sh : Int → Bool} {A : Int → Int} {dr a m pc : Int} {can : Int → Int → Bool} (hW : 2 ≤ W) (hC : 0 ≤ C) (hd : 0 ≤ dr ∧ dr ≤ 3) (ha : ∀ c, 0 ≤ c → c < C → sh c = false → tq_aim W C A c ≠ -1) : ∀ k : Nat, (∀ x, 0 ≤ tq_P W C sh A dr a m pc can k x) ∧ tq_S (tq_P W C sh A dr a m pc can k) C.toNat ≤ ((12 ^ k : Nat) : Int)
  | 0 => by
    refine ⟨fun x => ?_, ?_⟩
    · show 0 ≤ if x = a then (1 : Int) else 0
      split <;> omega
    · exact tq_S_1' (e := a) (f := fun x => if x = a then (1 : Int) else 0) (v := 1) (by decide) (fun x hx => if_neg hx) (by show (if a = a then (1 : Int) else 0) ≤ 1; rw [if_pos rfl]; decide) C.toNat
  | k + 1 => by
    obtain ⟨h1, h2⟩ := tq_P_b (m := m) (a := a) (pc := pc) (can := can) hW hC hd ha k
    refine ⟨fun x => tq_G_b (fun c x => tq_K_b hd h1 c x) C.toNat x, ?_⟩
    have h3 := tq_G_S (ok := fun c => can c (m + ((k + 1 : Nat) : Int) * pc)) hW hd h1 C.toNat C.toNat (fun c c0 c1 => ha c c0 (by omega))
    have e : ((12 ^ (k + 1) : Nat) : Int) = 12 * ((12 ^ k : Nat) : Int) := by
      rw [Nat.pow_succ]
      omega
    rw [e]
    have h4 : tq_S (tq_P W C sh A dr a m pc can (k + 1)) C.toNat = tq_S (tq_G (tq_K W C sh A dr (fun c => can c (m + ((k + 1 : Nat) : Int) * pc)) (tq_P W C sh A dr a m pc can k)) C.toNat) C.toNat := rfl
    rw [h4]
    omega
/-- each share of a step, while it is being made -/
theorem tq_P_x {W C : Int} {sh : Int → Bool} {A : Int → Int} {dr a m pc : Int} {can : Int → Int → Bool} (hW : 2 ≤ W) (hC : 0 ≤ C) (hd : 0 ≤ dr ∧ dr ≤ 3) (ha : ∀ c, 0 ≤ c → c < C → sh c = false → tq_aim W C A c ≠ -1) {k : Nat} (hk : k ≤ 10) {x : Int} (hx : 0 ≤ x ∧ x < C) : 0 ≤ tq_P W C sh A dr a m pc can k x ∧ tq_P W C sh A dr a m pc can k x ≤ 61917364224 := by
  obtain ⟨h1, h2⟩ := tq_P_b (m := m) (a := a) (pc := pc) (can := can) hW hC hd ha k
  have h3 := tq_S_x h1 C.toNat x hx.1 (by omega)
  have h4 := (tq_12 hk).2
  exact ⟨h1 x, by omega⟩
