/-! What a night is; the class's pass (126). -/
/-- how many seatings in the first n minutes -/
def tn_T (e : Int) : Nat → Int
  | 0 => 0
  | n + 1 => if (n : Int) = e * tn_T e n then tn_T e n + 1 else tn_T e n
/-- the minute of the latest seating -/
def tn_M (e f : Int) : Nat → Int
  | 0 => f
  | n + 1 => if (n : Int) = e * tn_T e n then f + n else tn_M e f n
def tn_mv (e f : Int) (P : Int → Int → Int) (g : Int) : Nat → Int
  | 0 => 0
  | n + 1 => tn_mv e f P g n + (if (n : Int) = e * tn_T e n ∧ 0 < tn_T e n ∧ ¬ P (tn_M e f n) g = P (f + n) g then 1 else 0)
def tn_Qn (e f : Int) (qn : Int → Int) : Nat → Int
  | 0 => 0
  | n + 1 => tn_Qn e f qn n + (if (n : Int) = e * tn_T e n then qn (f + n) else 0)
def tn_wt (e f : Int) (P : Int → Int → Int) (w : Int → Int → Int → Bool) (g : Int) : Nat → Int
  | 0 => 0
  | n + 1 => tn_wt e f P w g n + (if w (f + n) (P (tn_M e f (n + 1)) g) g = true then 1 else 0)
theorem tn_T_b {e : Int} : ∀ n : Nat, 0 ≤ tn_T e n ∧ tn_T e n ≤ n
  | 0 => ⟨Int.le_refl 0, Int.le_refl 0⟩
  | n + 1 => by
    have := tn_T_b (e := e) n
    unfold tn_T
    split <;> omega
theorem tn_mv_b {e f : Int} {P : Int → Int → Int} {g : Int} : ∀ n : Nat, 0 ≤ tn_mv e f P g n ∧ tn_mv e f P g n ≤ n
  | 0 => ⟨Int.le_refl 0, Int.le_refl 0⟩
  | n + 1 => by
    have := tn_mv_b (e := e) (f := f) (P := P) (g := g) n
    unfold tn_mv
    split <;> omega
theorem tn_wt_b {e f : Int} {P : Int → Int → Int} {w : Int → Int → Int → Bool} {g : Int} : ∀ n : Nat, 0 ≤ tn_wt e f P w g n ∧ tn_wt e f P w g n ≤ n
  | 0 => ⟨Int.le_refl 0, Int.le_refl 0⟩
  | n + 1 => by
    have := tn_wt_b (e := e) (f := f) (P := P) (w := w) (g := g) n
    unfold tn_wt
    split <;> omega
theorem tn_Qn_b {e f : Int} {qn : Int → Int} (h : ∀ m, 0 ≤ qn m ∧ qn m ≤ 45) : ∀ n : Nat, 0 ≤ tn_Qn e f qn n ∧ tn_Qn e f qn n ≤ 45 * n
  | 0 => ⟨Int.le_refl 0, Int.le_refl 0⟩
  | n + 1 => by
    have := tn_Qn_b (e := e) (f := f) h n
    have := h (f + n)
    unfold tn_Qn
    split <;> omega
/-- the seatings lie every e minutes -/
theorem tn_T_e {e : Int} (he : 1 ≤ e) : ∀ n : Nat, (n : Int) ≤ e * tn_T e n ∧ e * tn_T e n < n + e
  | 0 => by
    show (0 : Int) ≤ e * 0 ∧ e * 0 < 0 + e
    omega
  | n + 1 => by
    have h := tn_T_e he n
    unfold tn_T
    by_cases c : (n : Int) = e * tn_T e n
    · rw [if_pos c, Int.mul_add, Int.mul_one]
      omega
    · rw [if_neg c]
      omega
theorem tn_T_m {e : Int} (he : 1 ≤ e) (n : Nat) : ((n : Int) = e * tn_T e n) ↔ (n : Int) % e = 0 := by
  constructor
  · intro h
    rw [h]
    exact Int.mul_emod_right e _
  · intro h
    have h1 := tn_T_e he n
    have h2 := Int.mul_ediv_add_emod (n : Int) e
    rw [h, Int.add_zero] at h2
    obtain ⟨q, hq⟩ : ∃ q, q = (n : Int) / e := ⟨_, rfl⟩
    rw [← hq] at h2
    by_cases c : tn_T e n = q
    · rw [c, h2]
    · by_cases c1 : tn_T e n ≤ q - 1
      · have h3 := Int.mul_le_mul_of_nonneg_left c1 (show 0 ≤ e by omega)
        rw [Int.mul_sub, Int.mul_one] at h3
        omega
      · have h3 := Int.mul_le_mul_of_nonneg_left (show q + 1 ≤ tn_T e n by omega) (show 0 ≤ e by omega)
        rw [Int.mul_add, Int.mul_one] at h3
        omega
def tn_qn (i : MI) (S m : Int) : Int := tn_cc (tn_f i m S (ty_place i m S)) (i 124 4) (i 124 4).toNat 0
def tn_P (i : MI) (S : Int) : Int → Int → Int := fun m x => ty_place i m S x
def tn_ww (i : MI) : Int → Int → Int → Bool := fun m p _ => decide (tn_hi i p < ty_lev i m)
def tn_wu (i : MI) : Int → Int → Int → Bool := fun m p g => decide (tn_hi i p + i 124 (121 + 14 * g) < ty_lev i m)
def tn_KS : List Nat := [9, 10, 11, 12, 13, 70, 71, 72, 103, 104, 105, 106, 107, 108]
theorem tn_P_b {i : MI} (h : ty_Q i) (S m x : Int) : -1 ≤ tn_P i S m x ∧ tn_P i S m x < i 124 3 := by
  have b3 := h.2.2.1.2
  exact tn_sit_b (M := i 124 3) (s := S) (fun u g => tn_cho_b (i := i) (m := m) (g := g) (u := u) b3.1) (ty_ord i) (fun _ => 0) (fun _ => -1) (fun _ => ⟨by omega, by omega⟩) x
/-- the class after n minutes -/
def tn_CI (i0 : MI) (S f e : Int) (n : Nat) (i : MI) : Prop :=
  ty_Q i ∧ ty_ch tn_KS i0 i ∧ (i 103 7 = i0 103 7 + tn_T e n ∧ ∀ x : Int, 0 ≤ x → x < 320 → i 108 x ≤ i 103 7) ∧ (i 9 0 = tn_T e n ∧ i 9 1 = tn_Qn e f (tn_qn i0 S) n ∧ i 9 2 = S) ∧
  (∀ x : Int, 0 ≤ x → x < 10 → i 12 x = (if x < i0 124 4 ∧ ty_bit S x = true then tn_mv e f (tn_P i0 S) x n else 0) ∧ i 10 x = (if x < i0 124 4 ∧ ty_bit S x = true then tn_wt e f (tn_P i0 S) (tn_ww i0) x n else 0) ∧ i 11 x = (if x < i0 124 4 ∧ ty_bit S x = true then tn_wt e f (tn_P i0 S) (tn_wu i0) x n else 0)) ∧
  (0 < n → ∀ x : Int, 0 ≤ x → x < 10 → i 105 x = tn_P i0 S (tn_M e f n) x ∧ (x < i0 124 4 ∧ ty_bit S x = true → i 106 x = tn_P i0 S (tn_M e f n) x)) ∧
  ∀ k x : Int, 0 ≤ k → k < 50 → k < tn_T e n → 0 ≤ x → x < 10 → x < i0 124 4 ∧ ty_bit S x = true → i 13 (10 * k + x) = tn_P i0 S (f + e * k) x
section TNP
variable {L t : Nat} {r : MR}
/-- the rest of a minute: soak -/
theorem tn_126_w (hr : px_hr r) (d : Nat) (i0 i l : MI) (S f e to x6 : Int) (n : Nat) (hQ0 : ty_Q i0) (hS : 0 ≤ S ∧ S < 1024) (hf : 0 ≤ f) (hm : f + n < 1440) (x5 : Int)
    (hQ : ty_Q i) (hc : ty_ch tn_KS i0 i) (hst : i 103 7 = i0 103 7 + tn_T e (n + 1) ∧ ∀ x : Int, 0 ≤ x → x < 320 → i 108 x ≤ i 103 7) (h9 : i 9 0 = tn_T e (n + 1) ∧ i 9 1 = tn_Qn e f (tn_qn i0 S) (n + 1) ∧ i 9 2 = S)
    (hrow : ∀ x : Int, 0 ≤ x → x < 10 → i 12 x = (if x < i0 124 4 ∧ ty_bit S x = true then tn_mv e f (tn_P i0 S) x (n + 1) else 0) ∧ i 10 x = (if x < i0 124 4 ∧ ty_bit S x = true then tn_wt e f (tn_P i0 S) (tn_ww i0) x n else 0) ∧ i 11 x = (if x < i0 124 4 ∧ ty_bit S x = true then tn_wt e f (tn_P i0 S) (tn_wu i0) x n else 0))
    (hpl : ∀ x : Int, 0 ≤ x → x < 10 → i 105 x = tn_P i0 S (tn_M e f (n + 1)) x ∧ (x < i0 124 4 ∧ ty_bit S x = true → i 106 x = tn_P i0 S (tn_M e f (n + 1)) x))
    (h13 : ∀ k x : Int, 0 ≤ k → k < 50 → k < tn_T e (n + 1) → 0 ≤ x → x < 10 → x < i0 124 4 ∧ ty_bit S x = true → i 13 (10 * k + x) = tn_P i0 S (f + e * k) x) :
    ∃ i1 : MI, px_X (d + 6 + 1) 126 (68, [vR 103, vI f, vI to, vI e, vR 9, vI x5, vI x6, vI (f + n)], []) (px_sh L, i, l, r, t) = px_X (d + 6 + 1) 126 (31, [vR 103, vI f, vI to, vI e, vR 9, vI x5, vI x6, vI (f + ((n + 1 : Nat) : Int))], []) (px_sh L, i1, l, r, t) ∧ tn_CI i0 S f e (n + 1) i1 := by
  have e124 : i 124 = i0 124 := hc 124 (by decide)
  obtain ⟨i1, r1, c1, Q1, p1, p2⟩ := tn_129 (L := L) (r := r) (t := t) hr (d + 1) i l (f + n) S (tn_P i0 S (tn_M e f (n + 1))) hQ (by omega) hS h9.2.2 (fun g g0 g1 => ⟨(hpl g g0 g1).1, by rw [e124]; exact tn_P_b hQ0 S _ g⟩) (fun x x0 x1 => by
    have h := hrow x x0 x1
    have a := tn_wt_b (e := e) (f := f) (P := tn_P i0 S) (w := tn_ww i0) (g := x) n
    have b := tn_wt_b (e := e) (f := f) (P := tn_P i0 S) (w := tn_wu i0) (g := x) n
    rw [h.2.1, h.2.2]
    by_cases c : x < i0 124 4 ∧ ty_bit S x = true
    · rw [if_pos c, if_pos c]
      omega
    · rw [if_neg c, if_neg c]
      omega)
  have w1 : px_w32 (f + n + 1) = f + ((n + 1 : Nat) : Int) := by rw [ty_w (by omega)]; omega
  have el : ty_lev i (f + n) = ty_lev i0 (f + n) := tn_lev hQ0 (tn_fp_ch hc rfl) _
  have eh : ∀ p, tn_hi i p = tn_hi i0 p := fun p => by
    unfold tn_hi
    rw [e124]
  refine ⟨i1, ?_, Q1, ty_ch_tr hc c1 rfl rfl, ⟨by rw [c1 103 (by decide)]; exact hst.1, by rw [c1 103 (by decide), c1 108 (by decide)]; exact hst.2⟩, by rw [c1 9 (by decide)]; exact h9, fun x x0 x1 => ?_, fun _ x x0 x1 => ?_, by rw [c1 13 (by decide)]; exact h13⟩
  · rw [b126_68 hr, r1, Option.bind_some, px_psh_none, b126_76 hr, w1]
  · have h := hrow x x0 x1
    rw [c1 12 (by decide), p1 x x0 x1, p2 x x0 x1, h.1, h.2.1, h.2.2, e124, el, eh]
    refine ⟨rfl, ?_, ?_⟩
    · show _ = if x < i0 124 4 ∧ ty_bit S x = true then tn_wt e f (tn_P i0 S) (tn_ww i0) x n + (if decide (tn_hi i0 (tn_P i0 S (tn_M e f (n + 1)) x) < ty_lev i0 (f + n)) = true then 1 else 0) else 0
      by_cases c : x < i0 124 4 ∧ ty_bit S x = true
      · rw [if_pos c, if_pos c]
        by_cases c2 : tn_hi i0 (tn_P i0 S (tn_M e f (n + 1)) x) < ty_lev i0 (f + n)
        · rw [if_pos ⟨c.1, c.2, c2⟩, if_pos (decide_eq_true c2)]
        · rw [if_neg (fun h => c2 h.2.2), if_neg (fun h => c2 (of_decide_eq_true h))]
      · rw [if_neg c, if_neg c, if_neg (fun h => c ⟨h.1, h.2.1⟩), Int.add_zero]
    · show _ = if x < i0 124 4 ∧ ty_bit S x = true then tn_wt e f (tn_P i0 S) (tn_wu i0) x n + (if decide (tn_hi i0 (tn_P i0 S (tn_M e f (n + 1)) x) + i0 124 (121 + 14 * x) < ty_lev i0 (f + n)) = true then 1 else 0) else 0
      by_cases c : x < i0 124 4 ∧ ty_bit S x = true
      · rw [if_pos c, if_pos c]
        by_cases c2 : tn_hi i0 (tn_P i0 S (tn_M e f (n + 1)) x) + i0 124 (121 + 14 * x) < ty_lev i0 (f + n)
        · rw [if_pos ⟨c.1, c.2, c2⟩, if_pos (decide_eq_true c2)]
        · rw [if_neg (fun h => c2 h.2.2), if_neg (fun h => c2 (of_decide_eq_true h))]
      · rw [if_neg c, if_neg c, if_neg (fun h => c ⟨h.1, h.2.1⟩), Int.add_zero]
  · rw [c1 105 (by decide), c1 106 (by decide)]
    exact hpl x x0 x1
end TNP
