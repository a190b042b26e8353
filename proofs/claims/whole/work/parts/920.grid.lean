/-! The bank: cells beside, sets of cells. -/
def ty_b (b : Bool) : Int := if b = true then 1 else 0
theorem ty_b_bi (c : Prop) [Decidable c] : px_bi c = ty_b (decide c) := by
  unfold px_bi ty_b
  by_cases h : c
  · rw [if_pos h, if_pos (decide_eq_true h)]
  · rw [if_neg h, if_neg (fun q => h (of_decide_eq_true q))]
theorem ty_b_01 (b : Bool) : ty_b b = 0 ∨ ty_b b = 1 := by
  cases b
  · exact Or.inl rfl
  · exact Or.inr rfl
theorem ty_b_F {b : Bool} (h : ty_b b = 0) : b = false := by
  cases b
  · rfl
  · exact absurd h (by decide)
theorem ty_b_T {b : Bool} (h : ¬ ty_b b = 0) : b = true := by
  cases b
  · exact absurd rfl h
  · rfl
/-- how the sides go: 0 up, 1 right, 2 down, 3 left -/
def ty_ex (s : Int) : Int := if s = 1 then 1 else if s = 3 then -1 else 0
def ty_ey (s : Int) : Int := if s = 2 then 1 else if s = 0 then -1 else 0
/-- the cell beside; -1: none -/
def ty_bes (W C c s : Int) : Int :=
  if s = 0 then (if W ≤ c then c - W else -1) else if s = 1 then (if c % W = W - 1 then -1 else c + 1) else if s = 2 then (if c + W < C then c + W else -1) else (if c % W = 0 then -1 else c - 1)
theorem ty_bes_p {W H c s : Int} (hW : 2 ≤ W ∧ W ≤ 6) (hH : 2 ≤ H ∧ H ≤ 6) (hc : 0 ≤ c ∧ c < W * H) (hs : s = 0 ∨ s = 1 ∨ s = 2 ∨ s = 3) :
    (if 0 ≤ c % W + ty_ex s ∧ c % W + ty_ex s ≤ W - 1 then (if 0 ≤ c / W + ty_ey s ∧ c / W + ty_ey s ≤ H - 1 then c % W + ty_ex s + W * (c / W + ty_ey s) else -1) else -1) = ty_bes W (W * H) c s := by
  have hWW : W = 2 ∨ W = 3 ∨ W = 4 ∨ W = 5 ∨ W = 6 := by omega
  unfold ty_bes ty_ex ty_ey
  rcases hs with h | h | h | h <;> subst h <;> rcases hWW with h | h | h | h | h <;> subst h <;> simp only [Int.reduceEq, ↓reduceIte] <;> (repeat' split) <;> omega
theorem ty_bes_b {W H c s : Int} (hW : 2 ≤ W ∧ W ≤ 6) (hc : 0 ≤ c ∧ c < W * H) : ty_bes W (W * H) c s = -1 ∨ (0 ≤ ty_bes W (W * H) c s ∧ ty_bes W (W * H) c s < W * H) := by
  have hWW : W = 2 ∨ W = 3 ∨ W = 4 ∨ W = 5 ∨ W = 6 := by omega
  unfold ty_bes
  rcases hWW with h | h | h | h | h <;> subst h <;> (repeat' split) <;> omega
section TYGR
variable {L t : Nat} {r : MR}
theorem q210 (hr : px_hr r) (d : Nat) (i l : MI) (c s : Int) (hW : 2 ≤ i 123 0 ∧ i 123 0 ≤ 6) (hH : 2 ≤ i 123 1 ∧ i 123 1 ≤ 6) (hC : i 123 2 = i 123 0 * i 123 1) (hc : 0 ≤ c ∧ c < i 123 2) (hs : s = 0 ∨ s = 1 ∨ s = 2 ∨ s = 3) :
    px_C (d + 1) 210 [vR 123, vI c, vI s] (px_sh L, i, l, r, t) = some (some (vI (ty_bes (i 123 0) (i 123 2) c s)), (px_sh L, i, l, r, t)) := by
  have hp := ty_bes_p hW hH (by rw [← hC]; exact hc) hs
  rw [← hC] at hp
  have hcm : Int.tmod c (i 123 0) = c % i 123 0 := Int.tmod_eq_emod_of_nonneg hc.1
  have hcd : Int.tdiv c (i 123 0) = c / i 123 0 := Int.tdiv_eq_ediv_of_nonneg hc.1
  have hb : 0 ≤ c % i 123 0 ∧ c % i 123 0 < i 123 0 := ⟨Int.emod_nonneg _ (by omega), Int.emod_lt_of_pos _ (by omega)⟩
  have hd : 0 ≤ c / i 123 0 ∧ c / i 123 0 ≤ c := ⟨Int.ediv_nonneg hc.1 (by omega), Int.ediv_le_self _ hc.1⟩
  have hx : -1 ≤ ty_ex s ∧ ty_ex s ≤ 1 := by
    unfold ty_ex
    (repeat' split) <;> omega
  have hy : -1 ≤ ty_ey s ∧ ty_ey s ≤ 1 := by
    unfold ty_ey
    (repeat' split) <;> omega
  have hWW : i 123 0 = 2 ∨ i 123 0 = 3 ∨ i 123 0 = 4 ∨ i 123 0 = 5 ∨ i 123 0 = 6 := by omega
  have hC36 : i 123 2 ≤ 36 := by
    rw [hC]
    have := Int.mul_le_mul hW.2 hH.2 (by omega) (by omega)
    omega
  have s1 : px_X (d + 1) 210 (0, [vR 123, vI c, vI s, vJ, vJ], []) (px_sh L, i, l, r, t) = px_X (d + 1) 210 (25, [vR 123, vI c, vI s, vJ, vJ], [vI (ty_ex s), vI (c % i 123 0)]) (px_sh L, i, l, r, t) := by
    rw [b210_0 hr _ _ _ _ _ (by omega), hcm]
    unfold ty_ex
    rcases hs with h | h | h | h <;> subst h <;> simp only [Int.reduceEq, ↓reduceIte]
  have w1 : px_w32 (c % i 123 0 + ty_ex s) = c % i 123 0 + ty_ex s := ty_w (by omega)
  have w2 : px_w32 (c / i 123 0) = c / i 123 0 := ty_w (by omega)
  have w3 : px_w32 (c / i 123 0 + ty_ey s) = c / i 123 0 + ty_ey s := ty_w (by omega)
  have w4 : px_w32 (i 123 0 - 1) = i 123 0 - 1 := ty_w (by omega)
  have w5 : px_w32 (i 123 1 - 1) = i 123 1 - 1 := ty_w (by omega)
  have s2 : px_X (d + 1) 210 (25, [vR 123, vI c, vI s, vJ, vJ], [vI (ty_ex s), vI (c % i 123 0)]) (px_sh L, i, l, r, t) = px_X (d + 1) 210 (51, [vR 123, vI c, vI s, vI (c % i 123 0 + ty_ex s), vJ], [vI (ty_ey s), vI (c / i 123 0)]) (px_sh L, i, l, r, t) := by
    rw [b210_25 hr _ _ _ _ _ _ _ (by omega), hcd, w1, w2]
    unfold ty_ey
    rcases hs with h | h | h | h <;> subst h <;> simp only [Int.reduceEq, ↓reduceIte]
  rw [e210, s1, s2, b210_51 hr, w4, q141 hr, Option.bind_some, px_psh_some, w3, b210_65 hr, ← hp]
  by_cases h1 : 0 ≤ c % i 123 0 + ty_ex s ∧ c % i 123 0 + ty_ex s ≤ i 123 0 - 1
  · rw [px_bi_T h1, if_neg (by omega), if_pos h1, w5, q141 hr, Option.bind_some, px_psh_some, b210_80 hr]
    by_cases h2 : 0 ≤ c / i 123 0 + ty_ey s ∧ c / i 123 0 + ty_ey s ≤ i 123 1 - 1
    · have hm : 0 ≤ i 123 0 * (c / i 123 0 + ty_ey s) ∧ i 123 0 * (c / i 123 0 + ty_ey s) ≤ 100 := by
        rcases hWW with h | h | h | h | h <;> rw [h] at h2 ⊢ <;> omega
      rw [px_bi_T h2, if_neg (by omega), if_pos h2, ty_w (x := i 123 0 * (c / i 123 0 + ty_ey s)) (by omega), ty_w (by omega)]
    · rw [px_bi_F h2, if_pos rfl, if_neg h2]
  · rw [px_bi_F h1, if_pos rfl, if_neg h1]
/-- the class's sides: up, left, right, down -/
def ty_sd (s : Int) : Int := if s = 0 then 0 else if s = 1 then 3 else if s = 2 then 1 else 2
theorem q41 (hr : px_hr r) (d : Nat) (i l : MI) (hD : ty_D i l) (c s : Int) (hc : 0 ≤ c ∧ c < i 123 2) (hs : s = 0 ∨ s = 1 ∨ s = 2 ∨ s = 3) :
    px_C (d + 1) 41 [vR 19, vI c, vI s] (px_sh L, i, l, r, t) = some (some (vI (ty_bes (i 123 0) (i 123 2) c (ty_sd s))), (px_sh L, i, l, r, t)) := by
  have hdim := ty_D_2 hD
  have hp36 := ty_p36 hdim.2
  have hW : 2 ≤ i 123 0 ∧ i 123 0 ≤ 6 := hD.1
  have e0 : i 19 0 = i 123 0 := hD.2.2.2.1
  have e19 : i 19 2 = i 123 2 := hD.2.2.2.2.2.1
  have hlr := hD.2.2.2.2.2.2.2.1
  have hbt := hD.2.2.2.2.2.2.2.2.1 c hc.1 hc.2
  have b4 := ty_lbit_i (x := l 19 4) (k := c) (by omega) (by omega)
  have b5 := ty_lbit_i (x := l 19 5) (k := c) (by omega) (by omega)
  rw [e41, b41_0 hr, q37 hr, Option.bind_some, px_psh_some, e19, px_bi_T hc, b41_5 hr, if_neg (by omega), e0, e19, b4, b5, hbt.1, hbt.2]
  unfold ty_bes ty_sd
  rcases hs with h | h | h | h <;> subst h
  · rw [if_pos rfl, if_pos rfl, if_pos rfl]
    by_cases h : c < i 123 0
    · rw [if_pos h, if_neg (by omega)]
    · rw [if_neg h, if_pos (by omega), ty_w (by omega)]
  · simp only [Int.reduceEq, ↓reduceIte]
    by_cases h : c % i 123 0 = 0
    · rw [if_pos (decide_eq_true h), if_pos (by decide), if_pos h]
    · rw [if_neg (fun q => h (of_decide_eq_true q)), if_neg (by decide), if_neg h, ty_w (by omega)]
  · simp only [Int.reduceEq, ↓reduceIte]
    by_cases h : c % i 123 0 = i 123 0 - 1
    · rw [if_pos (decide_eq_true h), if_pos (by decide), if_pos h]
    · rw [if_neg (fun q => h (of_decide_eq_true q)), if_neg (by decide), if_neg h, ty_w (by omega)]
  · have w : px_w32 (c + i 123 0) = c + i 123 0 := ty_w (by omega)
    simp only [Int.reduceEq, ↓reduceIte, w]
    by_cases h : c + i 123 0 < i 123 2
    · rw [if_neg (by omega), if_pos h]
    · rw [if_pos (by omega), if_neg h]
end TYGR
/-- S is the set of the cells below C that f takes -/
def ty_set (C S : Int) (f : Int → Bool) : Prop := (0 ≤ S ∧ S < 2 ^ C.toNat) ∧ ∀ c : Int, 0 ≤ c → c < C → ty_bit S c = f c
theorem ty_set_n {C S : Int} {f : Int → Bool} (h : ty_set C S f) : ∃ n : Nat, S = (n : Int) ∧ n < 2 ^ C.toNat ∧ ∀ c : Nat, (c : Int) < C → n.testBit c = f (c : Int) := by
  have h2 := h.1.2
  refine ⟨S.toNat, (Int.toNat_of_nonneg h.1.1).symm, ?_, fun c hc => ?_⟩
  · rw [show (2 : Int) ^ C.toNat = ((2 ^ C.toNat : Nat) : Int) by rw [Int.natCast_pow]; rfl] at h2
    have := h.1.1
    omega
  · exact h.2 (c : Int) (by omega) hc
theorem ty_set_mk {C : Int} {n : Nat} {f : Int → Bool} (h : n < 2 ^ C.toNat) (hf : ∀ c : Nat, (c : Int) < C → n.testBit c = f (c : Int)) : ty_set C (n : Int) f := by
  refine ⟨⟨by omega, ?_⟩, fun c c0 c1 => ?_⟩
  · rw [show (2 : Int) ^ C.toNat = ((2 ^ C.toNat : Nat) : Int) by rw [Int.natCast_pow]; rfl]
    omega
  · have := hf c.toNat (by omega)
    rw [Int.toNat_of_nonneg c0] at this
    exact this
theorem ty_set_c {C S : Int} {f g : Int → Bool} (h : ty_set C S f) (hg : ∀ c : Int, 0 ≤ c → c < C → g c = f c) : ty_set C S g := ⟨h.1, fun c c0 c1 => by rw [h.2 c c0 c1, hg c c0 c1]⟩
theorem ty_p36n {C : Int} (h : C ≤ 36) : 2 ^ C.toNat ≤ 68719476736 := by
  have : (2 : Nat) ^ C.toNat ≤ 2 ^ 36 := Nat.pow_le_pow_right (by omega) (by omega)
  omega
theorem ty_set_and {C S T : Int} {f g : Int → Bool} (hC : C ≤ 36) (h : ty_set C S f) (h' : ty_set C T g) : ty_set C (px_land S T) (fun c => f c && g c) := by
  obtain ⟨n, rfl, hn, hf⟩ := ty_set_n h
  obtain ⟨m, rfl, hm, hg⟩ := ty_set_n h'
  have p := ty_p36n hC
  have hle : n &&& m ≤ n := Nat.and_le_left
  rw [ty_land_nat (by omega) (by omega)]
  refine ty_set_mk (by omega) (fun c hc => ?_)
  rw [Nat.testBit_and, hf c hc, hg c hc]
theorem ty_set_lan {C S T : Int} {f g : Int → Bool} (hC : C ≤ 36) (h : ty_set C S f) (h' : ty_set C T g) : ty_set C (px_land S (px_lxor T (-1))) (fun c => f c && !g c) := by
  obtain ⟨n, rfl, hn, hf⟩ := ty_set_n h
  obtain ⟨m, rfl, hm, hg⟩ := ty_set_n h'
  have p := ty_p36n hC
  have hle := ty_xa_le n m
  rw [ty_lan_nat (by omega) (by omega)]
  refine ty_set_mk (by omega) (fun c hc => ?_)
  rw [ty_xa_bit, hf c hc, hg c hc]
theorem ty_set_lor {C S T : Int} {f g : Int → Bool} (hC : C ≤ 36) (h : ty_set C S f) (h' : ty_set C T g) : ty_set C (px_lor S T) (fun c => f c || g c) := by
  obtain ⟨n, rfl, hn, hf⟩ := ty_set_n h
  obtain ⟨m, rfl, hm, hg⟩ := ty_set_n h'
  have p := ty_p36n hC
  rw [ty_lor_nat (by omega) (by omega)]
  refine ty_set_mk (Nat.or_lt_two_pow hn hm) (fun c hc => ?_)
  rw [Nat.testBit_or, hf c hc, hg c hc]
theorem ty_set_1 {C a : Int} (hC : C ≤ 36) (ha : 0 ≤ a ∧ a < C) : ty_set C (px_lshl 1 a) (fun c => decide (c = a)) := by
  obtain ⟨k, rfl⟩ : ∃ k : Nat, a = (k : Int) := ⟨a.toNat, by omega⟩
  rw [ty_lshl_1 k (by omega)]
  refine ty_set_mk (Nat.pow_lt_pow_right (by omega) (by omega)) (fun c hc => ?_)
  rw [Nat.testBit_two_pow]
  exact decide_eq_decide.mpr (by omega)
theorem ty_set_0 {C : Int} : ty_set C 0 (fun _ => false) := ⟨⟨Int.le_refl _, Int.pow_pos (by omega)⟩, fun c _ _ => Nat.zero_testBit _⟩
theorem ty_set_ne {C S : Int} {f : Int → Bool} (h : ty_set C S f) : S = 0 ↔ ∀ c : Int, 0 ≤ c → c < C → f c = false := by
  obtain ⟨n, rfl, hn, hf⟩ := ty_set_n h
  constructor
  · intro e c c0 c1
    have e0 : n = 0 := by omega
    have := hf c.toNat (by omega)
    rw [e0, Nat.zero_testBit, Int.toNat_of_nonneg c0] at this
    exact this.symm
  · intro e
    by_cases h0 : n = 0
    · rw [h0]
      rfl
    · obtain ⟨k, hk⟩ := Nat.exists_testBit_of_ne_zero h0
      by_cases hkC : (k : Int) < C
      · rw [hf k hkC, e (k : Int) (by omega) hkC] at hk
        exact absurd hk (by decide)
      · have : n.testBit k = false := Nat.testBit_lt_two_pow (Nat.lt_of_lt_of_le hn (Nat.pow_le_pow_right (by omega) (by omega)))
        rw [this] at hk
        exact absurd hk (by decide)
theorem ty_cmp0 {x : Int} : px_cmp x 0 = 0 ↔ x = 0 := by
  unfold px_cmp
  constructor
  · intro h
    by_cases h1 : x < 0
    · rw [if_pos h1] at h
      omega
    · rw [if_neg h1] at h
      by_cases h2 : x = 0
      · exact h2
      · rw [if_neg h2] at h
        omega
  · intro h
    rw [h]
    rfl
/-- whether a cell beside c is taken -/
def ty_nb (W C : Int) (f : Int → Bool) (c : Int) : Bool := (decide (W ≤ c) && f (c - W)) || (decide (¬ c % W = W - 1) && f (c + 1)) || (decide (c + W < C) && f (c + W)) || (decide (¬ c % W = 0) && f (c - 1))
theorem ty_nb_bes {W C : Int} {f : Int → Bool} {c : Int} (hW : 2 ≤ W ∧ W ≤ 6) (hc : 0 ≤ c) : ty_nb W C f c = (((((false || (decide (¬ ty_bes W C c 0 = -1) && f (ty_bes W C c 0))) || (decide (¬ ty_bes W C c 1 = -1) && f (ty_bes W C c 1))) || (decide (¬ ty_bes W C c 2 = -1) && f (ty_bes W C c 2))) || (decide (¬ ty_bes W C c 3 = -1) && f (ty_bes W C c 3)))) := by
  have hb : 0 ≤ c % W ∧ (¬ c % W = 0 → 1 ≤ c) := by
    have hWW : W = 2 ∨ W = 3 ∨ W = 4 ∨ W = 5 ∨ W = 6 := by omega
    rcases hWW with h | h | h | h | h <;> subst h <;> omega
  have h0 : (decide (¬ ty_bes W C c 0 = -1) && f (ty_bes W C c 0)) = (decide (W ≤ c) && f (c - W)) := by
    unfold ty_bes
    rw [if_pos rfl]
    by_cases h : W ≤ c
    · rw [if_pos h, decide_eq_true h, decide_eq_true (by omega)]
    · rw [if_neg h, decide_eq_false h, decide_eq_false (by omega)]
      rfl
  have h1 : (decide (¬ ty_bes W C c 1 = -1) && f (ty_bes W C c 1)) = (decide (¬ c % W = W - 1) && f (c + 1)) := by
    unfold ty_bes
    rw [if_neg (by omega), if_pos rfl]
    by_cases h : c % W = W - 1
    · rw [if_pos h, decide_eq_false (show ¬ ¬ (-1 : Int) = -1 by omega), decide_eq_false (fun q => q h)]
      rfl
    · rw [if_neg h, decide_eq_true h, decide_eq_true (by omega)]
  have h2 : (decide (¬ ty_bes W C c 2 = -1) && f (ty_bes W C c 2)) = (decide (c + W < C) && f (c + W)) := by
    unfold ty_bes
    rw [if_neg (by omega), if_neg (by omega), if_pos rfl]
    by_cases h : c + W < C
    · rw [if_pos h, decide_eq_true h, decide_eq_true (by omega)]
    · rw [if_neg h, decide_eq_false h, decide_eq_false (by omega)]
      rfl
  have h3 : (decide (¬ ty_bes W C c 3 = -1) && f (ty_bes W C c 3)) = (decide (¬ c % W = 0) && f (c - 1)) := by
    unfold ty_bes
    rw [if_neg (by omega), if_neg (by omega), if_neg (by omega)]
    by_cases h : c % W = 0
    · rw [if_pos h, decide_eq_false (show ¬ ¬ (-1 : Int) = -1 by omega), decide_eq_false (fun q => q h)]
      rfl
    · rw [if_neg h, decide_eq_true h, decide_eq_true (by omega)]
  rw [h0, h1, h2, h3, Bool.false_or]
  rfl
/-- cells beside each other -/
def ty_adj (W C c e : Int) : Prop := (W ≤ c ∧ e = c - W) ∨ (¬ c % W = W - 1 ∧ e = c + 1) ∨ (c + W < C ∧ e = c + W) ∨ (¬ c % W = 0 ∧ e = c - 1)
theorem ty_nb_adj {W C : Int} {f : Int → Bool} {c : Int} : ty_nb W C f c = true ↔ ∃ e, ty_adj W C c e ∧ f e = true := by
  unfold ty_nb ty_adj
  simp only [Bool.or_eq_true, Bool.and_eq_true, decide_eq_true_eq]
  constructor
  · rintro (((⟨h, hf⟩ | ⟨h, hf⟩) | ⟨h, hf⟩) | ⟨h, hf⟩)
    · exact ⟨_, Or.inl ⟨h, rfl⟩, hf⟩
    · exact ⟨_, Or.inr (Or.inl ⟨h, rfl⟩), hf⟩
    · exact ⟨_, Or.inr (Or.inr (Or.inl ⟨h, rfl⟩)), hf⟩
    · exact ⟨_, Or.inr (Or.inr (Or.inr ⟨h, rfl⟩)), hf⟩
  · rintro ⟨e, (⟨h, rfl⟩ | ⟨h, rfl⟩ | ⟨h, rfl⟩ | ⟨h, rfl⟩), hf⟩
    · exact Or.inl (Or.inl (Or.inl ⟨h, hf⟩))
    · exact Or.inl (Or.inl (Or.inr ⟨h, hf⟩))
    · exact Or.inl (Or.inr ⟨h, hf⟩)
    · exact Or.inr ⟨h, hf⟩
theorem ty_adj_s {W H c e : Int} (hW : 2 ≤ W ∧ W ≤ 6) (hc : 0 ≤ c ∧ c < W * H) (h : ty_adj W (W * H) c e) : (0 ≤ e ∧ e < W * H) ∧ ty_adj W (W * H) e c := by
  have hWW : W = 2 ∨ W = 3 ∨ W = 4 ∨ W = 5 ∨ W = 6 := by omega
  unfold ty_adj at h ⊢
  rcases hWW with h | h | h | h | h <;> subst h <;> omega
theorem ty_bes_adj {W C c e : Int} (hW : 2 ≤ W ∧ W ≤ 6) (hc : 0 ≤ c) (he : 0 ≤ e) : ty_adj W C c e ↔ (e = ty_bes W C c 0 ∨ e = ty_bes W C c 1 ∨ e = ty_bes W C c 2 ∨ e = ty_bes W C c 3) := by
  have hWW : W = 2 ∨ W = 3 ∨ W = 4 ∨ W = 5 ∨ W = 6 := by omega
  unfold ty_adj ty_bes
  simp only [Int.reduceEq, ↓reduceIte]
  rcases hWW with h | h | h | h | h <;> subst h <;> (repeat' split) <;> omega
theorem ty_nb_c {W H : Int} {f g : Int → Bool} (hW : 2 ≤ W ∧ W ≤ 6) (h : ∀ c, 0 ≤ c → c < W * H → f c = g c) : ∀ c, 0 ≤ c → c < W * H → ty_nb W (W * H) f c = ty_nb W (W * H) g c := by
  intro c c0 c1
  have key : ∀ (f g : Int → Bool), (∀ c, 0 ≤ c → c < W * H → f c = g c) → ty_nb W (W * H) f c = true → ty_nb W (W * H) g c = true := fun f g h hf => by
    obtain ⟨e, he, hfe⟩ := ty_nb_adj.mp hf
    have hb := (ty_adj_s hW ⟨c0, c1⟩ he).1
    exact ty_nb_adj.mpr ⟨e, he, by rw [← h e hb.1 hb.2]; exact hfe⟩
  have k1 := key f g h
  have k2 := key g f (fun c c0 c1 => (h c c0 c1).symm)
  cases hx : ty_nb W (W * H) f c <;> cases hy : ty_nb W (W * H) g c
  · rfl
  · rw [k2 hy] at hx
    exact absurd hx (by decide)
  · rw [k1 hx] at hy
    exact absurd hy (by decide)
  · rfl
/-- the cells beside a set's, in bits -/
theorem ty_besn {n a b W C : Nat} (hW : W ≤ 6) (hC : C ≤ 36) (hn : n < 2 ^ C) (ha : a < 2 ^ C) (hb : b < 2 ^ C) :
    px_lor (px_lor (px_lor (px_lushr (n : Int) (W : Int)) (px_lushr (px_land (n : Int) (px_lxor (a : Int) (-1))) 1)) (px_lshl (px_land (n : Int) (px_lxor (b : Int) (-1))) 1)) (px_land (px_lshl (n : Int) (W : Int)) ((2 ^ C - 1 : Nat) : Int)) =
      (((n >>> W ||| (n ^^^ (n &&& a)) >>> 1 ||| (n ^^^ (n &&& b)) <<< 1) ||| (n <<< W &&& (2 ^ C - 1)) : Nat) : Int) := by
  have p : 2 ^ C ≤ 2 ^ 36 := Nat.pow_le_pow_right (by omega) hC
  have pW : 2 ^ W ≤ 2 ^ 6 := Nat.pow_le_pow_right (by omega) hW
  have h1 : n * 2 ^ W < 2 ^ 36 * 2 ^ 6 := Nat.lt_of_le_of_lt (Nat.mul_le_mul_left n pW) (Nat.mul_lt_mul_of_pos_right (by omega) (by omega))
  have hxa := ty_xa_le n a
  have hxb := ty_xa_le n b
  have h3 : (n ^^^ (n &&& a)) >>> 1 ≤ n ^^^ (n &&& a) := Nat.shiftRight_le _ 1
  have h4 : n >>> W ≤ n := Nat.shiftRight_le _ W
  have e1 : px_lushr (px_land (n : Int) (px_lxor (a : Int) (-1))) 1 = (((n ^^^ (n &&& a)) >>> 1 : Nat) : Int) := by
    rw [ty_lan_nat (by omega) (by omega)]
    exact ty_lushr_nat (s := 1) (by omega) (by omega)
  have h5 : (n ^^^ (n &&& b)) <<< 1 = (n ^^^ (n &&& b)) * 2 ^ 1 := Nat.shiftLeft_eq _ 1
  have e2 : px_lshl (px_land (n : Int) (px_lxor (b : Int) (-1))) 1 = (((n ^^^ (n &&& b)) <<< 1 : Nat) : Int) := by
    rw [ty_lan_nat (by omega) (by omega)]
    exact ty_lshl_nat (s := 1) (by omega) (by omega)
  have h6 : n <<< W = n * 2 ^ W := Nat.shiftLeft_eq _ W
  have g1 : n >>> W ||| (n ^^^ (n &&& a)) >>> 1 < 2 ^ 37 := Nat.or_lt_two_pow (by omega) (by omega)
  have g2 : n >>> W ||| (n ^^^ (n &&& a)) >>> 1 ||| (n ^^^ (n &&& b)) <<< 1 < 2 ^ 37 := Nat.or_lt_two_pow g1 (by omega)
  have g3 : n <<< W &&& (2 ^ C - 1) ≤ 2 ^ C - 1 := Nat.and_le_right
  rw [ty_lushr_nat (by omega) (by omega), e1, ty_lor_nat (by omega) (by omega), e2, ty_lor_nat (by omega) (by omega), ty_lshl_nat (by omega) (by omega), ty_land_nat (by omega) (by omega), ty_lor_nat (by omega) (by omega)]
theorem ty_besn_bit (n a b W C c : Nat) : (((n >>> W ||| (n ^^^ (n &&& a)) >>> 1 ||| (n ^^^ (n &&& b)) <<< 1) ||| (n <<< W &&& (2 ^ C - 1)))).testBit c = ((((n.testBit (W + c) || (n.testBit (1 + c) && !a.testBit (1 + c))) || (decide (c ≥ 1) && (n.testBit (c - 1) && !b.testBit (c - 1))))) || ((decide (c ≥ W) && n.testBit (c - W)) && decide (c < C))) := by
  rw [Nat.testBit_or, Nat.testBit_or, Nat.testBit_or, Nat.testBit_shiftRight, Nat.testBit_shiftRight, ty_xa_bit, Nat.testBit_shiftLeft, ty_xa_bit, Nat.testBit_and, Nat.testBit_shiftLeft, Nat.testBit_two_pow_sub_one]
theorem ty_set_bes {i l : MI} (hD : ty_D i l) {S : Int} {f : Int → Bool} (h : ty_set (i 123 2) S f) :
    ty_set (i 123 2) (px_lor (px_lor (px_lor (px_lushr S (i 19 0)) (px_lushr (px_land S (px_lxor (l 19 4) (-1))) 1)) (px_lshl (px_land S (px_lxor (l 19 5) (-1))) 1)) (px_land (px_lshl S (i 19 0)) (l 19 3))) (ty_nb (i 123 0) (i 123 2) f) := by
  have hdim := ty_D_2 hD
  have hW : 2 ≤ i 123 0 ∧ i 123 0 ≤ 6 := hD.1
  have hH : 2 ≤ i 123 1 ∧ i 123 1 ≤ 6 := hD.2.1
  have hC : i 123 2 = i 123 0 * i 123 1 := hD.2.2.1
  have e0 : i 19 0 = i 123 0 := hD.2.2.2.1
  have hlr := hD.2.2.2.2.2.2.2.1
  have hbt := hD.2.2.2.2.2.2.2.2.1
  have hal := hD.2.2.2.2.2.2.1
  have hsa : ty_set (i 123 2) (l 19 4) (fun c => decide (c % i 123 0 = 0)) := ⟨⟨hlr.1, hlr.2.2.1⟩, fun c c0 c1 => (hbt c c0 c1).1⟩
  have hsb : ty_set (i 123 2) (l 19 5) (fun c => decide (c % i 123 0 = i 123 0 - 1)) := ⟨⟨hlr.2.1, hlr.2.2.2⟩, fun c c0 c1 => (hbt c c0 c1).2⟩
  obtain ⟨n, en, hn, hf⟩ := ty_set_n h
  obtain ⟨a, ea, ha, hfa⟩ := ty_set_n hsa
  obtain ⟨b, eb, hb, hfb⟩ := ty_set_n hsb
  obtain ⟨W, eW⟩ : ∃ W : Nat, i 123 0 = (W : Int) := ⟨(i 123 0).toNat, by omega⟩
  obtain ⟨C, eC⟩ : ∃ C : Nat, i 123 2 = (C : Int) := ⟨(i 123 2).toNat, by omega⟩
  rw [hal, e0, en, ea, eb]
  rw [eC] at hn ha hb hf hfa hfb ⊢
  rw [eW] at hfa hfb ⊢
  rw [Int.toNat_natCast] at hn ha hb ⊢
  have ep : (2 : Int) ^ C - 1 = ((2 ^ C - 1 : Nat) : Int) := by
    have h1 : (2 : Int) ^ C = ((2 ^ C : Nat) : Int) := by rw [Int.natCast_pow]; rfl
    have h2 : 0 < 2 ^ C := Nat.two_pow_pos C
    omega
  rw [ep, ty_besn (by omega) (by omega) hn ha hb]
  have hi : ∀ k : Nat, C ≤ k → n.testBit k = false := fun k hk => Nat.testBit_lt_two_pow (Nat.lt_of_lt_of_le hn (Nat.pow_le_pow_right (by omega) hk))
  have hCW : ∃ H : Nat, (2 ≤ H ∧ H ≤ 6) ∧ C = W * H := by
    refine ⟨(i 123 1).toNat, by omega, ?_⟩
    have h1 : (C : Int) = (W : Int) * i 123 1 := by rw [← eC, ← eW, hC]
    have h2 : i 123 1 = ((i 123 1).toNat : Int) := by omega
    rw [h2, ← Int.natCast_mul] at h1
    exact Int.ofNat.inj h1
  obtain ⟨H, hHb, hCH⟩ := hCW
  have hWW : W = 2 ∨ W = 3 ∨ W = 4 ∨ W = 5 ∨ W = 6 := by omega
  refine ty_set_mk ?_ (fun c hc => ?_)
  · rw [Int.toNat_natCast]
    apply Nat.lt_pow_two_of_testBit
    intro k hk
    rw [ty_besn_bit, hi (W + k) (by omega), hi (1 + k) (by omega), decide_eq_false (show ¬ k < C by omega)]
    by_cases hkC : k = C
    · have hlast : b.testBit (C - 1) = true := by
        rw [hfb (C - 1) (by omega)]
        apply decide_eq_true
        rw [hCH]
        rcases hWW with h | h | h | h | h <;> subst h <;> omega
      rw [hkC, hlast]
      cases n.testBit (C - 1) <;> simp
    · rw [hi (k - 1) (by omega)]
      simp
  · have hcC : c < C := by omega
    rw [ty_besn_bit]
    unfold ty_nb
    have t0 : (decide (c ≥ W) && n.testBit (c - W) && decide (c < C)) = (decide ((W : Int) ≤ (c : Int)) && f ((c : Int) - (W : Int))) := by
      rw [decide_eq_true hcC, Bool.and_true]
      by_cases hk : W ≤ c
      · rw [decide_eq_true (show c ≥ W from hk), decide_eq_true (show (W : Int) ≤ (c : Int) by omega), hf (c - W) (by omega), show ((c - W : Nat) : Int) = (c : Int) - (W : Int) by omega]
      · rw [decide_eq_false (show ¬ c ≥ W from hk), decide_eq_false (show ¬ (W : Int) ≤ (c : Int) by omega)]
        rfl
    have t1 : (n.testBit (1 + c) && !a.testBit (1 + c)) = (decide (¬ (c : Int) % (W : Int) = (W : Int) - 1) && f ((c : Int) + 1)) := by
      by_cases hk : 1 + c < C
      · rw [hf (1 + c) (by omega), hfa (1 + c) (by omega), show ((1 + c : Nat) : Int) = (c : Int) + 1 by omega, Bool.and_comm]
        congr 1
        rw [← decide_not]
        apply decide_eq_decide.mpr
        rcases hWW with h | h | h | h | h <;> subst h <;> omega
      · rw [hi (1 + c) (by omega), decide_eq_false (fun q => q (by
          have : C = c + 1 := by omega
          rw [hCH] at this
          rcases hWW with h | h | h | h | h <;> subst h <;> omega))]
        rfl
    have t2 : n.testBit (W + c) = (decide ((c : Int) + (W : Int) < (C : Int)) && f ((c : Int) + (W : Int))) := by
      by_cases hk : W + c < C
      · rw [hf (W + c) (by omega), decide_eq_true (by omega), Bool.true_and, show ((W + c : Nat) : Int) = (c : Int) + (W : Int) by omega]
      · rw [hi (W + c) (by omega), decide_eq_false (by omega)]
        rfl
    have t3 : (decide (c ≥ 1) && (n.testBit (c - 1) && !b.testBit (c - 1))) = (decide (¬ (c : Int) % (W : Int) = 0) && f ((c : Int) - 1)) := by
      by_cases hk : 1 ≤ c
      · rw [decide_eq_true (show c ≥ 1 from hk), Bool.true_and, hf (c - 1) (by omega), hfb (c - 1) (by omega), show ((c - 1 : Nat) : Int) = (c : Int) - 1 by omega, Bool.and_comm]
        congr 1
        rw [← decide_not]
        apply decide_eq_decide.mpr
        rcases hWW with h | h | h | h | h <;> subst h <;> omega
      · rw [decide_eq_false (show ¬ c ≥ 1 from hk), decide_eq_false (fun q => q (by
          have : c = 0 := by omega
          subst this
          rcases hWW with h | h | h | h | h <;> subst h <;> rfl))]
        rfl
    rw [t0, t1, t2, t3]
    cases (decide ((W : Int) ≤ (c : Int)) && f ((c : Int) - (W : Int))) <;> cases (decide (¬ (c : Int) % (W : Int) = (W : Int) - 1) && f ((c : Int) + 1)) <;> cases (decide ((c : Int) + (W : Int) < (C : Int)) && f ((c : Int) + (W : Int))) <;> cases (decide (¬ (c : Int) % (W : Int) = 0) && f ((c : Int) - 1)) <;> rfl
section TYG2
variable {L t : Nat} {r : MR}
theorem q42 (hr : px_hr r) (d : Nat) (i l : MI) (hD : ty_D i l) {S : Int} {f : Int → Bool} (h : ty_set (i 123 2) S f) : ∃ R : Int, px_C d 42 [vR 19, vL S] (px_sh L, i, l, r, t) = some (some (vL R), (px_sh L, i, l, r, t)) ∧ ty_set (i 123 2) R (ty_nb (i 123 0) (i 123 2) f) :=
  ⟨_, by rw [e42, b42_0 hr], ty_set_bes hD h⟩
end TYG2
