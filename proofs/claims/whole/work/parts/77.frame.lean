/-! Frames: what a part of the coupling rests on. -/
theorem ty_up_row {α : Type} {f : Nat → Int → α} {k k' : Nat} {x : Int} {v : α} (h : k' ≠ k) : px_up f k x v k' = f k' := funext (fun _ => ty_up_k h)
theorem ty_un_row {α : Type} {f : Nat → Int → α} {k k' : Nat} {g : Int → α} (h : k' ≠ k) : px_un f k g k' = f k' := funext (fun _ => ty_un_k h)
theorem ty_un_same {α : Type} {f : Nat → Int → α} {k : Nat} {g : Int → α} : px_un f k g k = g := funext (fun _ => ty_un_eq)
section TYF
variable {o : Nat} {i i' l l' : MI} {A A' : Int → Int}
theorem ty_Hb_c (h1 : i' (19 + o) 8 = i (19 + o) 8) (h2 : l' (19 + o) 7 = l (19 + o) 7) (h3 : i' 123 2 = i 123 2) (h4 : i' (20 + o) = i (20 + o)) (hc : i 123 2 ≤ 36) (hA : ∀ x, (x = 0 ∨ (20 ≤ x ∧ x < 92)) → A' x = A x) (h : ty_Hb o i l A) : ty_Hb o i' l' A' := by
  unfold ty_Hb at h ⊢
  rw [h1, h2, h3, h4, hA 0 (by omega)]
  refine ⟨h.1, h.2.1, fun c c0 c1 => ?_⟩
  rw [hA (20 + 2 * c) (by omega), hA (21 + 2 * c) (by omega)]
  exact h.2.2 c c0 c1
theorem ty_Hs_c (h1 : i' (4 + o) = i (4 + o)) (h2 : i' (5 + o) 0 = i (5 + o) 0) (hA : ∀ x, (1 ≤ x ∧ x < 9) → A' x = A x) (h : ty_Hs o i A) : ty_Hs o i' A' := by
  unfold ty_Hs at h ⊢
  rw [h1, h2, hA 1 (by omega), hA 2 (by omega), hA 3 (by omega), hA 4 (by omega), hA 5 (by omega), hA 6 (by omega), hA 7 (by omega), hA 8 (by omega)]
  exact h
theorem ty_Hp_c (h1 : i' (14 + o) = i (14 + o)) (h2 : i' (15 + o) = i (15 + o)) (h8 : A 3 ≤ 8) (hA : ∀ x, (x = 3 ∨ (100 ≤ x ∧ x < 120)) → A' x = A x) (h : ty_Hp o i A) : ty_Hp o i' A' := by
  intro p p0 p1
  rw [hA 3 (by omega)] at p1
  rw [h1, h2, hA (100 + 2 * p) (by omega), hA (101 + 2 * p) (by omega)]
  exact h p p0 p1
theorem ty_Hg_c (h1 : ∀ k, k < 10 → i' (21 + o + k) = i (21 + o + k)) (h8 : A 4 ≤ 10) (hA : ∀ x, (x = 4 ∨ (120 ≤ x ∧ x < 260)) → A' x = A x) (h : ty_Hg o i A) : ty_Hg o i' A' := by
  intro g g0 g1 c c0 c1
  rw [hA 4 (by omega)] at g1
  rw [h1 g.toNat (by omega), hA (120 + 14 * g + c) (by omega)]
  exact h g g0 g1 c c0 c1
theorem ty_Ho_c (h1 : i' (17 + o) = i (17 + o)) (h8 : A 4 ≤ 10) (hA : ∀ x, (x = 4 ∨ (120 ≤ x ∧ x < 260)) → A' x = A x) (h : ty_Ho o i A) : ty_Ho o i' A' := by
  unfold ty_Ho
  rw [h1, hA 4 (by omega)]
  refine ⟨h.1, fun x y x0 xy y1 => ?_⟩
  have hx := h.1 x x0 (by omega)
  have hy := h.1 y (by omega) y1
  rw [hA (120 + 14 * i (17 + o) x) (by omega), hA (120 + 14 * i (17 + o) y) (by omega)]
  exact h.2 x y x0 xy y1
theorem ty_Hh_c (h1 : i' (16 + o) = i (16 + o)) (h8 : A 7 ≤ 7) (hA : ∀ x, (x = 7 ∨ (270 ≤ x ∧ x < 280)) → A' x = A x) (h : ty_Hh o i A) : ty_Hh o i' A' := by
  intro p p0 p1
  rw [hA 7 (by omega)] at p1
  rw [h1, hA (270 + p) (by omega)]
  exact h p p0 p1
theorem ty_Hl_c (h1 : i' (6 + o) = i (6 + o)) (h2 : i' (7 + o) = i (7 + o)) (h3 : i' (8 + o) = i (8 + o)) (h8 : A 8 ≤ 12) (h4 : A 4 ≤ A' 4) (h5 : A 3 ≤ A' 3) (hA : ∀ x, (x = 8 ∨ (280 ≤ x ∧ x < 320)) → A' x = A x) (h : ty_Hl o i A) : ty_Hl o i' A' := by
  intro p p0 p1
  rw [hA 8 (by omega)] at p1
  rw [h1, h2, h3, hA (280 + 3 * p) (by omega), hA (281 + 3 * p) (by omega), hA (282 + 3 * p) (by omega)]
  have := h p p0 p1
  exact ⟨this.1, ⟨this.2.1.1, this.2.1.2.1, by omega⟩, ⟨this.2.2.1, this.2.2.2.1, by omega⟩⟩
theorem ty_Hn_c (h1 : i' (9 + o) = i (9 + o)) (h2 : i' (10 + o) = i (10 + o)) (h3 : i' (11 + o) = i (11 + o)) (h4 : i' (12 + o) = i (12 + o)) (h5 : i' (13 + o) = i (13 + o)) (hA : ∀ x, (x = 4 ∨ x = 9 ∨ x = 10 ∨ (128 < x ∧ x < 133 + 126 ∧ 9 ≤ (x - 120) % 14 ∧ (x - 120) % 14 ≤ 12) ∨ 320 ≤ x) → A' x = A x) (h : ty_Hn o i A) : ty_Hn o i' A' := by
  unfold ty_Hn at h ⊢
  rw [h1, h2, h3, h4, h5, hA 4 (by omega), hA 9 (by omega), hA 10 (by omega)]
  refine ⟨h.1, h.2.1, h.2.2.1, fun g g0 g1 => ⟨(h.2.2.2.1 g g0 g1).1, fun g2 => ?_⟩, fun k g k0 k1 k2 g0 g1 => ?_⟩
  · rw [hA (132 + 14 * g) (by omega), hA (129 + 14 * g) (by omega), hA (130 + 14 * g) (by omega), hA (131 + 14 * g) (by omega)]
    exact (h.2.2.2.1 g g0 g1).2 g2
  · rw [hA (320 + 10 * k + g) (by omega)]
    exact h.2.2.2.2 k g k0 k1 k2 g0 g1
theorem ty_D_c (h1 : i' 123 0 = i 123 0) (h2 : i' 123 1 = i 123 1) (h3 : i' 123 2 = i 123 2) (h4 : i' 19 0 = i 19 0) (h5 : i' 19 1 = i 19 1) (h6 : i' 19 2 = i 19 2) (h7 : l' 19 3 = l 19 3) (h8 : l' 19 4 = l 19 4) (h9 : l' 19 5 = l 19 5) (hG : ∀ k : Nat, px_gs k → (i' k 2 = i k 2 ∨ i' k 2 = 0 ∨ i' k 2 = 1) ∧ (i' k 8 = i k 8 ∨ i' k 8 = 0 ∨ i' k 8 = 1)) (h : ty_D i l) : ty_D i' l' := by
  have hg : ∀ k : Nat, px_gs k → (i' k 2 = 0 ∨ i' k 2 = 1) ∧ (i' k 8 = 0 ∨ i' k 8 = 1) := fun k hk => by
    have h1 := hG k hk
    have h2 := h.2.2.2.2.2.2.2.2.2 k hk
    omega
  unfold ty_D at h ⊢
  rw [h1, h2, h3, h4, h5, h6, h7, h8, h9]
  exact ⟨h.1, h.2.1, h.2.2.1, h.2.2.2.1, h.2.2.2.2.1, h.2.2.2.2.2.1, h.2.2.2.2.2.2.1, h.2.2.2.2.2.2.2.1, h.2.2.2.2.2.2.2.2.1, hg⟩
theorem ty_gs_fr (h : ∀ k : Nat, 21 ≤ k → k < 58 → i' k = i k) : ∀ k : Nat, px_gs k → (i' k 2 = i k 2 ∨ i' k 2 = 0 ∨ i' k 2 = 1) ∧ (i' k 8 = i k 8 ∨ i' k 8 = 0 ∨ i' k 8 = 1) := fun k hk => by
  have hk2 : 21 ≤ k ∧ k < 58 := by
    unfold px_gs at hk
    omega
  rw [h k hk2.1 hk2.2]
  exact ⟨Or.inl rfl, Or.inl rfl⟩
theorem ty_T_c (h1 : i' 58 1 = i 58 1) (h2 : i' 58 2 = i 58 2) (h3 : i' 58 3 = i 58 3) (h4 : i' 58 4 = i 58 4) (h5 : i' 123 6 = i 123 6) (h6 : i' 123 7 = i 123 7) (h7 : i' 123 8 = i 123 8) (h8 : i' 64 = i 64) (h9 : i' 126 = i 126) (h : ty_T i) : ty_T i' := by
  unfold ty_T at h ⊢
  rw [h1, h2, h3, h4, h5, h6, h7, h8, h9]
  exact h
end TYF
