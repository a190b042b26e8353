/-! A pilot: how far each cell is from the shore. -/
/-- within k steps of the shore -/
def tq_R (W C : Int) (sh : Int → Bool) : Nat → Int → Bool
  | 0, c => sh c
  | k + 1, c => tq_R W C sh k c || ty_nb W C (tq_R W C sh k) c
theorem tq_R_1 {W C : Int} {sh : Int → Bool} {k : Nat} {c : Int} (h : tq_R W C sh k c = true) : tq_R W C sh (k + 1) c = true := by
  show (tq_R W C sh k c || _) = true
  rw [h, Bool.true_or]
theorem tq_R_m {W C : Int} {sh : Int → Bool} {k : Nat} {c : Int} (h : tq_R W C sh k c = true) : ∀ n : Nat, tq_R W C sh (k + n) c = true
  | 0 => h
  | n + 1 => tq_R_1 (tq_R_m h n)
theorem tq_R_le {W C : Int} {sh : Int → Bool} {k n : Nat} {c : Int} (h : tq_R W C sh k c = true) (hn : k ≤ n) : tq_R W C sh n c = true := by
  have := tq_R_m h (n - k)
  rw [show k + (n - k) = n by omega] at this
  exact this
theorem tq_R_s {W C : Int} {sh : Int → Bool} {k : Nat} {c e : Int} (h : tq_R W C sh k e = true) (ha : ty_adj W C c e) : tq_R W C sh (k + 1) c = true := by
  show (tq_R W C sh k c || ty_nb W C (tq_R W C sh k) c) = true
  rw [ty_nb_adj.mpr ⟨e, ha, h⟩, Bool.or_true]
/-- along a row -/
theorem tq_row {W C : Int} (hW : 2 ≤ W ∧ W ≤ 6) {sh : Int → Bool} {c : Int} (hc : 0 ≤ c) : ∀ (n k : Nat) (e : Int), 0 ≤ e → e / W = c / W → (e - c = n ∨ c - e = n) → tq_R W C sh k c = true → tq_R W C sh (k + n) e = true
  | 0, k, e, h0, h1, h2, h => by
    have : e = c := by omega
    rw [this]
    exact h
  | n + 1, k, e, h0, h1, h2, h => by
    have hWW : W = 2 ∨ W = 3 ∨ W = 4 ∨ W = 5 ∨ W = 6 := by omega
    rcases h2 with h2 | h2
    · have ih := tq_row hW hc n k (e - 1) (by omega) (by rcases hWW with q | q | q | q | q <;> subst q <;> omega) (Or.inl (by omega)) h
      exact tq_R_s ih (Or.inr (Or.inr (Or.inr ⟨by rcases hWW with q | q | q | q | q <;> subst q <;> omega, rfl⟩)))
    · have ih := tq_row hW hc n k (e + 1) (by omega) (by rcases hWW with q | q | q | q | q <;> subst q <;> omega) (Or.inr (by omega)) h
      exact tq_R_s ih (Or.inr (Or.inl ⟨by rcases hWW with q | q | q | q | q <;> subst q <;> omega, rfl⟩))
/-- along a column -/
theorem tq_col {W C : Int} (hW : 2 ≤ W ∧ W ≤ 6) {sh : Int → Bool} {c : Int} (hc : 0 ≤ c ∧ c < C) : ∀ (n k : Nat) (e : Int), (0 ≤ e ∧ e < C) → (e - c = W * (n : Int) ∨ c - e = W * (n : Int)) → tq_R W C sh k c = true → tq_R W C sh (k + n) e = true
  | 0, k, e, h0, h2, h => by
    have : e = c := by
      rw [Int.natCast_zero, Int.mul_zero] at h2
      omega
    rw [this]
    exact h
  | n + 1, k, e, h0, h2, h => by
    have e1 : W * ((n + 1 : Nat) : Int) = W * (n : Int) + W := by rw [Int.natCast_add, Int.mul_add]; omega
    have e2 : 0 ≤ W * (n : Int) := Int.mul_nonneg (by omega) (by omega)
    rw [e1] at h2
    rcases h2 with h2 | h2
    · exact tq_R_s (tq_col hW hc n k (e - W) (by omega) (Or.inl (by omega)) h) (Or.inl ⟨by omega, rfl⟩)
    · exact tq_R_s (tq_col hW hc n k (e + W) (by omega) (Or.inr (by omega)) h) (Or.inr (Or.inr (Or.inl ⟨by omega, rfl⟩)))
/-- with a shore all is reached -/
theorem tq_con {W H : Int} (hW : 2 ≤ W ∧ W ≤ 6) (hH : 2 ≤ H ∧ H ≤ 6) {sh : Int → Bool} {s : Int} (hs : 0 ≤ s ∧ s < W * H) (h : sh s = true) {c : Int} (hc : 0 ≤ c ∧ c < W * H) : tq_R W (W * H) sh (W * H).toNat c = true := by
  have hWW : W = 2 ∨ W = 3 ∨ W = 4 ∨ W = 5 ∨ W = 6 := by omega
  have hHH : H = 2 ∨ H = 3 ∨ H = 4 ∨ H = 5 ∨ H = 6 := by omega
  obtain ⟨e, he⟩ : ∃ e, e = s / W * W + c % W := ⟨_, rfl⟩
  have f1 : 0 ≤ e ∧ e < W * H ∧ e / W = s / W ∧ e % W = c % W ∧ e - s < W ∧ s - e < W := by
    rcases hWW with q | q | q | q | q <;> subst q <;> rcases hHH with q | q | q | q | q <;> subst q <;> omega
  obtain ⟨n1, hn1⟩ : ∃ n : Nat, (e - s = n ∨ s - e = n) := ⟨(if s ≤ e then e - s else s - e).toNat, by split <;> omega⟩
  obtain ⟨n2, hn2⟩ : ∃ n : Nat, (c / W - e / W = n ∨ e / W - c / W = n) := ⟨(if e / W ≤ c / W then c / W - e / W else e / W - c / W).toNat, by split <;> omega⟩
  have r1 := tq_row (C := W * H) hW hs.1 n1 0 e f1.1 f1.2.2.1 hn1 h
  have hcol : c - e = W * (n2 : Int) ∨ e - c = W * (n2 : Int) := by
    rcases hWW with q | q | q | q | q <;> subst q <;> omega
  have r2 := tq_col (C := W * H) hW ⟨f1.1, f1.2.1⟩ n2 (0 + n1) c hc hcol r1
  refine tq_R_le r2 ?_
  rcases hWW with q | q | q | q | q <;> subst q <;> rcases hHH with q | q | q | q | q <;> subst q <;> omega
theorem tq_none {W C : Int} {sh : Int → Bool} (hW : 2 ≤ W ∧ W ≤ 6) {H : Int} (hC : C = W * H) (h : ∀ c, 0 ≤ c → c < C → sh c = false) : ∀ (k : Nat) (c : Int), 0 ≤ c → c < C → tq_R W C sh k c = false
  | 0, c, c0, c1 => h c c0 c1
  | k + 1, c, c0, c1 => by
    show (tq_R W C sh k c || ty_nb W C (tq_R W C sh k) c) = false
    rw [tq_none hW hC h k c c0 c1, Bool.false_or]
    cases hb : ty_nb W C (tq_R W C sh k) c with
    | false => rfl
    | true =>
      obtain ⟨e, ha, he⟩ := ty_nb_adj.mp hb
      have := (ty_adj_s (H := H) hW (by rw [← hC]; exact ⟨c0, c1⟩) (by rw [← hC]; exact ha)).1
      rw [← hC] at this
      rw [tq_none hW hC h k e this.1 this.2] at he
      exact absurd he (by decide)
/-- once nothing comes, nothing comes -/
theorem tq_stop {W C : Int} {sh : Int → Bool} (hW : 2 ≤ W ∧ W ≤ 6) {H : Int} (hC : C = W * H) {k : Nat} (h : ∀ c, 0 ≤ c → c < C → tq_R W C sh (k + 1) c = tq_R W C sh k c) : ∀ (n : Nat) (c : Int), 0 ≤ c → c < C → tq_R W C sh (k + n) c = tq_R W C sh k c
  | 0, c, c0, c1 => rfl
  | n + 1, c, c0, c1 => by
    show (tq_R W C sh (k + n) c || ty_nb W C (tq_R W C sh (k + n)) c) = _
    have e := fun c c0 c1 => tq_stop hW hC h n c c0 c1
    have en : ty_nb W C (tq_R W C sh (k + n)) c = ty_nb W C (tq_R W C sh k) c := by
      rw [hC] at e c1 ⊢
      exact ty_nb_c hW e c c0 c1
    rw [e c c0 c1, en]
    exact h c c0 c1
/-- v is how far c is -/
def tq_far (W C : Int) (sh : Int → Bool) (v c : Int) : Prop := 0 ≤ v ∧ tq_R W C sh v.toNat c = true ∧ ∀ k : Nat, (k : Int) < v → tq_R W C sh k c = false
theorem tq_far_u {W C : Int} {sh : Int → Bool} {v w c : Int} (h : tq_far W C sh v c) (h' : tq_far W C sh w c) : v = w := by
  have key : ∀ {a b : Int}, tq_far W C sh a c → tq_far W C sh b c → ¬ a < b := fun {a b} ha hb hlt => by
    have h1 := hb.2.2 a.toNat (by have := ha.1; omega)
    rw [ha.2.1] at h1
    exact absurd h1 (by decide)
  have h1 := key h h'
  have h2 := key h' h
  omega
theorem tq_far_p {W C : Int} {sh : Int → Bool} {v c : Int} (h : tq_far W C sh v c) (hs : sh c = false) : 0 < v := by
  by_cases e : v = 0
  · have := h.2.1
    rw [e] at this
    have h2 : sh c = true := this
    rw [hs] at h2
    exact absurd h2 (by decide)
  · have := h.1
    omega
/-- from a cell that is no shore one can come nearer -/
theorem tq_far_n {W C : Int} {sh : Int → Bool} {v c : Int} (h : tq_far W C sh v c) (hv : 0 < v) : ∃ e, ty_adj W C c e ∧ tq_R W C sh (v - 1).toNat e = true := by
  obtain ⟨n, rfl⟩ : ∃ n : Nat, v = ((n + 1 : Nat) : Int) := ⟨v.toNat - 1, by omega⟩
  have h1 := h.2.1
  rw [Int.toNat_natCast] at h1
  have h2 := h.2.2 n (by omega)
  have h3 : (tq_R W C sh n c || ty_nb W C (tq_R W C sh n) c) = true := h1
  rw [h2, Bool.false_or] at h3
  rw [show (((n + 1 : Nat) : Int) - 1).toNat = n by omega]
  exact ty_nb_adj.mp h3
theorem tq_far_le {W C : Int} {sh : Int → Bool} {v c : Int} {k : Nat} (h : tq_far W C sh v c) (hk : tq_R W C sh k c = true) : v ≤ k := by
  by_cases e : (k : Int) < v
  · rw [h.2.2 k e] at hk
    exact absurd hk (by decide)
  · omega
/-- the cell beside that is nearer -/
def tq_aim (W C : Int) (A : Int → Int) (c : Int) : Int :=
  if ¬ ty_bes W C c 0 = -1 ∧ A (ty_bes W C c 0) < A c then ty_bes W C c 0 else if ¬ ty_bes W C c 3 = -1 ∧ A (ty_bes W C c 3) < A c then ty_bes W C c 3 else if ¬ ty_bes W C c 1 = -1 ∧ A (ty_bes W C c 1) < A c then ty_bes W C c 1 else if ¬ ty_bes W C c 2 = -1 ∧ A (ty_bes W C c 2) < A c then ty_bes W C c 2 else -1
theorem tq_bes_b {W C c : Int} (hW : 2 ≤ W ∧ W ≤ 6) (hc : 0 ≤ c ∧ c < C) (s : Int) : ty_bes W C c s = -1 ∨ (0 ≤ ty_bes W C c s ∧ ty_bes W C c s < C ∧ ty_bes W C c s ≠ c) ∨ (0 ≤ ty_bes W C c s ∧ ty_bes W C c s = c + 1 ∧ ¬ c % W = W - 1) := by
  unfold ty_bes
  repeat' split
  all_goals omega
theorem tq_aim_b {W C : Int} {A : Int → Int} {c : Int} : tq_aim W C A c = -1 ∨ tq_aim W C A c = ty_bes W C c 0 ∨ tq_aim W C A c = ty_bes W C c 1 ∨ tq_aim W C A c = ty_bes W C c 2 ∨ tq_aim W C A c = ty_bes W C c 3 := by
  unfold tq_aim
  repeat' split
  · exact Or.inr (Or.inl rfl)
  · exact Or.inr (Or.inr (Or.inr (Or.inr rfl)))
  · exact Or.inr (Or.inr (Or.inl rfl))
  · exact Or.inr (Or.inr (Or.inr (Or.inl rfl)))
  · exact Or.inl rfl
theorem tq_aim_y {W H : Int} (hW : 2 ≤ W ∧ W ≤ 6) {sh : Int → Bool} {A : Int → Int} (hA : ∀ c, 0 ≤ c → c < W * H → tq_far W (W * H) sh (A c) c) {c : Int} (hc : 0 ≤ c ∧ c < W * H) (hs : sh c = false) : tq_aim W (W * H) A c ≠ -1 := by
  have hf := hA c hc.1 hc.2
  have hp := tq_far_p hf hs
  obtain ⟨e, ha, he⟩ := tq_far_n hf hp
  have hes := (ty_adj_s hW hc ha).1
  have hlt : A e < A c := by
    have := tq_far_le (hA e hes.1 hes.2) he
    omega
  have hb := (ty_bes_adj (W := W) (C := W * H) (c := c) (e := e) hW hc.1 hes.1).mp ha
  unfold tq_aim
  intro h
  split at h
  · omega
  · split at h
    · omega
    · split at h
      · omega
      · split at h
        · omega
        · rename_i n0 n3 n1 n2
          rcases hb with q | q | q | q
          · rw [← q] at n0
            exact n0 ⟨by omega, hlt⟩
          · rw [← q] at n1
            exact n1 ⟨by omega, hlt⟩
          · rw [← q] at n2
            exact n2 ⟨by omega, hlt⟩
          · rw [← q] at n3
            exact n3 ⟨by omega, hlt⟩
