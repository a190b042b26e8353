/-! rafts. -/
/-- what a raft of x doors bears -/
def ty_br (i : MI) (x : Int) : Int := ty_says i 3 99999 (100 * x) (fun _ => x)
theorem ty_br_ch {S : List Nat} {i i' : MI} {x : Int} (hL : ty_LW i) (hc : ty_ch S i i') (hS : S.all (fun k => decide (k ≠ 4 ∧ (k < 73 ∨ 103 ≤ k))) = true) : ty_br i' x = ty_br i x := ty_says_ch hL hc hS
/-- a set less another -/
def ty_sb (a b : Nat) : Nat := a ^^^ (a &&& b)
theorem ty_sb_bit (a b k : Nat) : (ty_sb a b).testBit k = (a.testBit k && !b.testBit k) := ty_xa_bit a b k
theorem ty_sb_le (a b : Nat) : ty_sb a b ≤ a := ty_xa_le a b
theorem ty_sb_0 {a b : Nat} : ty_sb a b = 0 ↔ ∀ k, a.testBit k = true → b.testBit k = true := by
  constructor
  · intro h k hk
    have h2 := ty_sb_bit a b k
    rw [h, Nat.zero_testBit, hk, Bool.true_and] at h2
    cases hb : b.testBit k with
    | true => rfl
    | false => rw [hb] at h2; exact absurd h2 (by decide)
  · intro h
    apply Nat.eq_of_testBit_eq
    intro k
    rw [ty_sb_bit, Nat.zero_testBit]
    cases ha : a.testBit k with
    | false => rfl
    | true => rw [h k ha]; rfl
theorem ty_sb_sub {a b : Nat} (h : ty_sb a b = 0) : a ≤ b := by
  have e : a &&& b = a := by
    apply Nat.eq_of_testBit_eq
    intro k
    rw [Nat.testBit_and]
    cases ha : a.testBit k with
    | false => rfl
    | true => rw [ty_sb_0.mp h k ha]; rfl
  have h2 : a &&& b ≤ b := Nat.and_le_right
  omega
theorem ty_bit_ex {p : Nat} (h : 1 ≤ p) : ∃ k, p.testBit k = true := Nat.exists_testBit_of_ne_zero (by omega)
theorem ty_sb_lt {s p : Nat} (h1 : 1 ≤ p) (h : ty_sb p s = 0) : ty_sb s p < s := by
  have h2 := ty_sb_le s p
  obtain ⟨k, hk⟩ := ty_bit_ex h1
  have hs := ty_sb_0.mp h k hk
  have hb := ty_sb_bit s p k
  rw [hs, hk] at hb
  have hne : ty_sb s p ≠ s := fun e => by
    rw [e, hs] at hb
    exact absurd hb (by decide)
  omega
/-- how many -/
def ty_sz (s : Nat) : Nat → Nat
  | 0 => 0
  | n + 1 => ty_sz s n + (if s.testBit n = true then 1 else 0)
theorem ty_sz_n (s : Nat) : ∀ n, ty_sz s n ≤ n
  | 0 => Nat.le_refl _
  | n + 1 => by
    unfold ty_sz
    have := ty_sz_n s n
    split <;> omega
theorem ty_sz_le {a b : Nat} (h : ∀ k, a.testBit k = true → b.testBit k = true) : ∀ n, ty_sz a n ≤ ty_sz b n
  | 0 => Nat.le_refl _
  | n + 1 => by
    unfold ty_sz
    have := ty_sz_le h n
    by_cases ha : a.testBit n = true
    · rw [if_pos ha, if_pos (h n ha)]; omega
    · rw [if_neg ha]
      split <;> omega
theorem ty_sz_lt {a b : Nat} (h : ∀ k, a.testBit k = true → b.testBit k = true) {j : Nat} (ha : a.testBit j = false) (hb : b.testBit j = true) : ∀ n, j < n → ty_sz a n + 1 ≤ ty_sz b n
  | 0, h0 => by omega
  | n + 1, hn => by
    unfold ty_sz
    by_cases e : j = n
    · subst e
      have := ty_sz_le h j
      rw [if_neg (by rw [ha]; decide), if_pos hb]
      omega
    · have := ty_sz_lt h ha hb n (by omega)
      by_cases ha : a.testBit n = true
      · rw [if_pos ha, if_pos (h n ha)]; omega
      · rw [if_neg ha]
        split <;> omega
theorem ty_sz_sb {s p : Nat} (h1 : 1 ≤ p) (h2 : p < 128) (h : ty_sb p s = 0) : ty_sz (ty_sb s p) 7 + 1 ≤ ty_sz s 7 := by
  obtain ⟨k, hk⟩ := ty_bit_ex h1
  have hs := ty_sb_0.mp h k hk
  refine ty_sz_lt (fun j hj => ?_) (j := k) ?_ hs 7 ?_
  · rw [ty_sb_bit, Bool.and_eq_true] at hj
    exact hj.1
  · rw [ty_sb_bit, hk]
    cases s.testBit k <;> rfl
  · by_cases h7 : k < 7
    · exact h7
    · have : p.testBit k = false := Nat.testBit_lt_two_pow (Nat.lt_of_lt_of_le h2 (Nat.le_trans (show 128 ≤ 2 ^ 7 by decide) (Nat.pow_le_pow_right (by omega) (by omega))))
      rw [this] at hk
      exact absurd hk (by decide)
/-- the least of acc and of what parts of s cost -/
def ty_sp (O F : Nat → Int) (C : Nat → Prop) (s k n : Nat) (acc v : Int) : Prop :=
  v ≤ acc ∧ (∀ p, k ≤ p → p < k + n → ty_sb p s = 0 → C p → v ≤ O p + F (ty_sb s p)) ∧ (v = acc ∨ ∃ p, k ≤ p ∧ p < k + n ∧ ty_sb p s = 0 ∧ C p ∧ v = O p + F (ty_sb s p))
section TYSP
variable {O F : Nat → Int} {C : Nat → Prop} {s k n : Nat} {acc v : Int}
theorem ty_sp_0 : ty_sp O F C s k 0 acc acc := ⟨Int.le_refl _, fun p h0 h1 => absurd h1 (by omega), Or.inl rfl⟩
theorem ty_sp_no (hc : ¬ (ty_sb k s = 0 ∧ C k)) (h : ty_sp O F C s (k + 1) n acc v) : ty_sp O F C s k (n + 1) acc v := by
  obtain ⟨h1, h2, h3⟩ := h
  refine ⟨h1, fun p p0 p1 ps pc => ?_, ?_⟩
  · by_cases e : p = k
    · rw [e] at ps pc
      exact absurd ⟨ps, pc⟩ hc
    · exact h2 p (by omega) (by omega) ps pc
  · rcases h3 with h | ⟨p, p0, p1, p2⟩
    · exact Or.inl h
    · exact Or.inr ⟨p, by omega, by omega, p2⟩
theorem ty_sp_le (hc : acc ≤ O k + F (ty_sb s k)) (h : ty_sp O F C s (k + 1) n acc v) : ty_sp O F C s k (n + 1) acc v := by
  obtain ⟨h1, h2, h3⟩ := h
  refine ⟨h1, fun p p0 p1 ps pc => ?_, ?_⟩
  · by_cases e : p = k
    · rw [e]
      omega
    · exact h2 p (by omega) (by omega) ps pc
  · rcases h3 with h | ⟨p, p0, p1, p2⟩
    · exact Or.inl h
    · exact Or.inr ⟨p, by omega, by omega, p2⟩
theorem ty_sp_lt (h0 : ty_sb k s = 0) (hC : C k) (hc : O k + F (ty_sb s k) ≤ acc) (h : ty_sp O F C s (k + 1) n (O k + F (ty_sb s k)) v) : ty_sp O F C s k (n + 1) acc v := by
  obtain ⟨h1, h2, h3⟩ := h
  refine ⟨by omega, fun p p0 p1 ps pc => ?_, ?_⟩
  · by_cases e : p = k
    · rw [e]
      exact h1
    · exact h2 p (by omega) (by omega) ps pc
  · rcases h3 with h | ⟨p, p0, p1, p2⟩
    · exact Or.inr ⟨k, by omega, by omega, h0, hC, h⟩
    · exact Or.inr ⟨p, by omega, by omega, p2⟩
theorem ty_sp_c {F' : Nat → Int} (hF : ∀ p, k ≤ p → ty_sb p s = 0 → F' (ty_sb s p) = F (ty_sb s p)) (h : ty_sp O F C s k n acc v) : ty_sp O F' C s k n acc v := by
  obtain ⟨h1, h2, h3⟩ := h
  refine ⟨h1, fun p p0 p1 ps pc => ?_, ?_⟩
  · rw [hF p p0 ps]
    exact h2 p p0 p1 ps pc
  · rcases h3 with h | ⟨p, p0, p1, p2, p3, p4⟩
    · exact Or.inl h
    · exact Or.inr ⟨p, p0, p1, p2, p3, by rw [hF p p0 p2]; exact p4⟩
end TYSP
/-- the lowest goes with one part: it costs no more -/
theorem ty_rf_eq {O f g : Nat → Int} {N : Nat} {lo : Nat → Nat → Prop} (hO : ∀ p, 0 ≤ O p) (hlo : ∀ s, 0 < s → s < N → ∃ b, s.testBit b = true ∧ (∀ k, k < b → s.testBit k = false) ∧ ∀ p, lo s p ↔ p.testBit b = true) (h0 : f 0 = g 0)
    (hf : ∀ s, 0 < s → s < N → ty_sp O f (lo s) s 1 s 1000 (f s)) (hg : ∀ s, 0 < s → s < N → ty_sp O g (fun _ => True) s 1 s 1000 (g s)) : ∀ n s : Nat, s < n → s < N → f s = g s
  | 0, s, h, _ => by omega
  | n + 1, s, hs, hN => by
    have ih := ty_rf_eq hO hlo h0 hf hg n
    by_cases s0 : s = 0
    · rw [s0]
      exact h0
    · obtain ⟨f1, f2, f3⟩ := hf s (by omega) hN
      obtain ⟨g1, g2, g3⟩ := hg s (by omega) hN
      obtain ⟨b, b1, b2, b3⟩ := hlo s (by omega) hN
      have ihs : ∀ p, p < s → f p = g p := fun p hp => ih p (by omega) (by omega)
      apply Int.le_antisymm
      · rcases g3 with e | ⟨p, p1, p2, p3, -, e⟩
        · rw [e]
          exact f1
        · have plt := ty_sb_lt p1 p3
          by_cases hp : p.testBit b = true
          · rw [e, ← ihs _ plt]
            exact f2 p p1 p2 p3 ((b3 p).mpr hp)
          · have hp' : p.testBit b = false := Bool.eq_false_iff.mpr hp
            obtain ⟨t, ht⟩ : ∃ t, t = ty_sb s p := ⟨_, rfl⟩
            have tb : ∀ k, t.testBit k = (s.testBit k && !p.testBit k) := fun k => by rw [ht, ty_sb_bit]
            rw [← ht] at plt e
            have tbb : t.testBit b = true := by rw [tb, b1, hp']; rfl
            have t0 : 0 < t := by
              by_cases h : t = 0
              · rw [h, Nat.zero_testBit] at tbb
                exact absurd tbb (by decide)
              · omega
            obtain ⟨f1', f2', f3'⟩ := hf t t0 (by omega)
            obtain ⟨b', c1, c2, c3⟩ := hlo t t0 (by omega)
            have eb : b' = b := by
              have h1 : ¬ b' < b := fun h => by
                rw [tb, b2 b' h] at c1
                exact absurd c1 Bool.false_ne_true
              have h2 : ¬ b < b' := fun h => by
                rw [c2 b h] at tbb
                exact absurd tbb (by decide)
              omega
            have et := ihs t plt
            rcases f3' with e' | ⟨q, q1, q2, q3, q4, e'⟩
            · have := hO p
              omega
            · have qt := ty_sb_0.mp q3
              have ps := ty_sb_0.mp p3
              have q3s : ty_sb q s = 0 := ty_sb_0.mpr (fun k hk => by
                have := qt k hk
                rw [tb, Bool.and_eq_true] at this
                exact this.1)
              have qle := ty_sb_sub q3s
              have k1 := f2 q q1 (by omega) q3s ((b3 q).mpr (by rw [← eb]; exact (c3 q).mp q4))
              have qlt := ty_sb_lt q1 q3s
              have k2 := ihs _ qlt
              have pq : ty_sb p (ty_sb s q) = 0 := ty_sb_0.mpr (fun k hk => by
                rw [ty_sb_bit, ps k hk]
                cases hq : q.testBit k with
                | false => rfl
                | true =>
                  have := qt k hq
                  rw [tb, hk] at this
                  cases hs : s.testBit k <;> rw [hs] at this <;> exact absurd this (by decide))
              have ple := ty_sb_sub pq
              obtain ⟨-, u2, -⟩ := hg (ty_sb s q) (by omega) (by omega)
              have k3 := u2 p p1 (by omega) pq trivial
              have e3 : ty_sb (ty_sb s q) p = ty_sb t q := by
                apply Nat.eq_of_testBit_eq
                intro k
                rw [ty_sb_bit, ty_sb_bit, ty_sb_bit, tb]
                cases s.testBit k <;> cases q.testBit k <;> cases p.testBit k <;> rfl
              rw [e3] at k3
              have qlt2 := ty_sb_lt q1 q3
              have k4 := ihs (ty_sb t q) (by omega)
              omega
      · rcases f3 with e | ⟨p, p1, p2, p3, -, e⟩
        · rw [e]
          exact g1
        · rw [e, ihs _ (ty_sb_lt p1 p3)]
          exact g2 p p1 p2 p3 trivial
def ty_lb (s : Nat) : Nat := if s.testBit 0 = true then 0 else if s.testBit 1 = true then 1 else if s.testBit 2 = true then 2 else if s.testBit 3 = true then 3 else if s.testBit 4 = true then 4 else if s.testBit 5 = true then 5 else 6
theorem ty_low_f : ∀ s : Fin 128, 0 < s.val → (px_and (s.val : Int) (px_w32 (-(s.val : Int))) = ((2 ^ ty_lb s.val : Nat) : Int) ∧ ty_lb s.val < 7) ∧ s.val.testBit (ty_lb s.val) = true ∧ ∀ k : Fin 7, k.val < ty_lb s.val → s.val.testBit k.val = false := by decide +kernel
theorem ty_low {s : Nat} (h0 : 0 < s) (h : s < 128) : (px_and (s : Int) (px_w32 (-(s : Int))) = ((2 ^ ty_lb s : Nat) : Int) ∧ ty_lb s < 7) ∧ s.testBit (ty_lb s) = true ∧ ∀ k, k < ty_lb s → s.testBit k = false := by
  obtain ⟨h1, h2, h3⟩ := ty_low_f ⟨s, h⟩ h0
  have h1' : ty_lb s < 7 := h1.2
  exact ⟨h1, h2, fun k hk => h3 ⟨k, by omega⟩ hk⟩
theorem ty_and_low {p b : Nat} (hp : p < 128) (hb : b < 7) : px_and (p : Int) ((2 ^ b : Nat) : Int) = 0 ↔ p.testBit b = false := by
  have h2 : 2 ^ b ≤ 2 ^ 6 := Nat.pow_le_pow_right (by omega) (by omega)
  rw [ty_and_nat (by omega) (by omega)]
  constructor
  · intro h
    have h3 : p &&& 2 ^ b = 0 := by omega
    have h4 : (p &&& 2 ^ b).testBit b = false := by rw [h3, Nat.zero_testBit]
    rw [Nat.testBit_and, Nat.testBit_two_pow_self, Bool.and_true] at h4
    exact h4
  · intro h
    have h3 : p &&& 2 ^ b = 0 := by
      apply Nat.eq_of_testBit_eq
      intro k
      rw [Nat.testBit_and, Nat.zero_testBit, Nat.testBit_two_pow]
      by_cases e : b = k
      · rw [← e, h]
        rfl
      · rw [decide_eq_false e, Bool.and_false]
    omega
theorem ty_bit_i {s k : Int} (h0 : 0 ≤ s ∧ s < 2147483648) (hk : 0 ≤ k ∧ k < 31) : px_and (px_shr s k) 1 = 1 ↔ ty_bit s k = true := by
  have h := ty_bit_1 (n := s.toNat) (k := k.toNat) (by omega) (by omega)
  rw [Int.toNat_of_nonneg h0.1, Int.toNat_of_nonneg hk.1] at h
  exact h
/-- what a set weighs -/
def ty_wt (W : Int → Int) (s : Int) : Nat → Int → Int → Int
  | 0, _, a => a
  | n + 1, k, a => ty_wt W s n (k + 1) (a + if ty_bit s k = true then W k else 0)
/-- the fewest doors that bear so much; 0: none do -/
def ty_ld (B : Int → Int) (w : Int) : Nat → Int → Int
  | 0, _ => 0
  | n + 1, d => if w ≤ B d then d else ty_ld B w n (d + 1)
theorem ty_ld_b (B : Int → Int) (w : Int) : ∀ (n : Nat) (d : Int), ty_ld B w n d = 0 ∨ (d ≤ ty_ld B w n d ∧ ty_ld B w n d < d + n)
  | 0, _ => Or.inl rfl
  | n + 1, d => by
    unfold ty_ld
    by_cases h : w ≤ B d
    · rw [if_pos h]
      exact Or.inr ⟨Int.le_refl _, by omega⟩
    · rw [if_neg h]
      rcases ty_ld_b B w n (d + 1) with h1 | ⟨h1, h2⟩
      · exact Or.inl h1
      · exact Or.inr ⟨by omega, by omega⟩
def ty_rr (B W : Int → Int) (H : Nat) (s : Nat) : Int := ty_ld B (ty_wt W (s : Int) H 0 0) 20 1
def ty_ro (B W : Int → Int) (H : Nat) (s : Nat) : Int := if ty_rr B W H s = 0 then 1000 else ty_rr B W H s
theorem ty_rr_b (B W : Int → Int) (H s : Nat) : 0 ≤ ty_rr B W H s ∧ ty_rr B W H s ≤ 20 := by
  rcases ty_ld_b B (ty_wt W (s : Int) H 0 0) 20 1 with h | ⟨h1, h2⟩
  · unfold ty_rr
    omega
  · unfold ty_rr
    omega
theorem ty_ro_b (B W : Int → Int) (H s : Nat) : 0 ≤ ty_ro B W H s ∧ ty_ro B W H s ≤ 1000 := by
  have h := ty_rr_b B W H s
  unfold ty_ro
  split <;> omega
def ty_sat (x : Int) : Int := if x = -1 then 1000 else x
