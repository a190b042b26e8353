/-! The coupling of the class's memory with the reference's. Cells of the class: 3..122; of the reference: 123..158. A house's cells lie at an offset o: 0 the house, 27 what is kept as its image; A is the reference's array (cell 124, or 125 for the image). -/
/-- a bit of a non-negative number -/
def ty_bit (s x : Int) : Bool := s.toNat.testBit x.toNat
/-- the bank -/
def ty_Hb (o : Nat) (i l : MI) (A : Int → Int) : Prop :=
  (i (19 + o) 8 = A 0 ∧ 0 ≤ A 0 ∧ A 0 < i 123 2) ∧
  (0 ≤ l (19 + o) 7 ∧ l (19 + o) 7 < 2 ^ (i 123 2).toNat) ∧
  ∀ c : Int, 0 ≤ c → c < i 123 2 → i (20 + o) c = A (20 + 2 * c) ∧ 0 ≤ A (20 + 2 * c) ∧ A (20 + 2 * c) ≤ 99 ∧ A (21 + 2 * c) = (if ty_bit (l (19 + o) 7) c = true then 1 else 0)
/-- sky, counts -/
def ty_Hs (o : Nat) (i : MI) (A : Int → Int) : Prop :=
  (i (4 + o) 3 = A 1 ∧ -9 ≤ A 1 ∧ A 1 ≤ 9) ∧ (i (4 + o) 4 = A 2 ∧ 0 ≤ A 2 ∧ A 2 ≤ 9) ∧ (i (4 + o) 5 = A 3 ∧ 0 ≤ A 3 ∧ A 3 ≤ 8) ∧
  (i (4 + o) 6 = A 4 ∧ 0 ≤ A 4 ∧ A 4 ≤ 10) ∧ (i (4 + o) 7 = A 5 ∧ 0 ≤ A 5 ∧ A 5 ≤ 6) ∧ (i (4 + o) 8 = A 6 ∧ -1 ≤ A 6 ∧ A 6 < A 5) ∧
  (i (4 + o) 9 = A 7 ∧ 0 ≤ A 7 ∧ A 7 ≤ 7) ∧ (i (5 + o) 0 = A 8 ∧ 0 ≤ A 8 ∧ A 8 ≤ 12)
/-- perches -/
def ty_Hp (o : Nat) (i : MI) (A : Int → Int) : Prop := ∀ p : Int, 0 ≤ p → p < A 3 →
  (i (14 + o) p = A (100 + 2 * p) ∧ 0 ≤ A (100 + 2 * p) ∧ A (100 + 2 * p) ≤ 99) ∧ (i (15 + o) p = A (101 + 2 * p) ∧ 1 ≤ A (101 + 2 * p) ∧ A (101 + 2 * p) ≤ 4)
/-- what may stand in a guest's column -/
def ty_col (c v : Int) : Prop := 0 ≤ v ∧ ((c = 0 ∨ c = 3 ∨ c = 4) → v ≤ 9) ∧ ((c = 1 ∨ c = 6) → v ≤ 30) ∧ ((c = 2 ∨ c = 8) → v ≤ 1) ∧ (c = 5 → 1 ≤ v ∧ v ≤ 20) ∧ (c = 7 → v ≤ 99)
/-- guests -/
def ty_Hg (o : Nat) (i : MI) (A : Int → Int) : Prop := ∀ g : Int, 0 ≤ g → g < A 4 → ∀ c : Int, 0 ≤ c → c < 9 → i (21 + o + g.toNat) c = A (120 + 14 * g + c) ∧ ty_col c (A (120 + 14 * g + c))
/-- the order of seating: by rank downward, of like ones by number -/
def ty_Ho (o : Nat) (i : MI) (A : Int → Int) : Prop :=
  (∀ x : Int, 0 ≤ x → x < A 4 → 0 ≤ i (17 + o) x ∧ i (17 + o) x < A 4) ∧
  ∀ x y : Int, 0 ≤ x → x < y → y < A 4 → A (120 + 14 * i (17 + o) y) < A (120 + 14 * i (17 + o) x) ∨ (A (120 + 14 * i (17 + o) y) = A (120 + 14 * i (17 + o) x) ∧ i (17 + o) x < i (17 + o) y)
/-- horses -/
def ty_Hh (o : Nat) (i : MI) (A : Int → Int) : Prop := ∀ h : Int, 0 ≤ h → h < A 7 → i (16 + o) h = A (270 + h) ∧ 1 ≤ A (270 + h) ∧ A (270 + h) ≤ 999
/-- the book -/
def ty_Hl (o : Nat) (i : MI) (A : Int → Int) : Prop := ∀ k : Int, 0 ≤ k → k < A 8 →
  (i (6 + o) k = A (280 + 3 * k) ∧ 0 ≤ A (280 + 3 * k) ∧ A (280 + 3 * k) ≤ 1439) ∧ (i (7 + o) k = A (281 + 3 * k) ∧ 0 ≤ A (281 + 3 * k) ∧ A (281 + 3 * k) < A 4) ∧ (i (8 + o) k = A (282 + 3 * k) ∧ -1 ≤ A (282 + 3 * k) ∧ A (282 + 3 * k) < A 3)
/-- the latest night -/
def ty_Hn (o : Nat) (i : MI) (A : Int → Int) : Prop :=
  (i (9 + o) 0 = A 10 ∧ 0 ≤ A 10 ∧ A 10 ≤ 1440) ∧ (i (9 + o) 1 = A 9 ∧ 0 ≤ A 9 ∧ A 9 ≤ 64800) ∧ (0 ≤ i (9 + o) 2 ∧ i (9 + o) 2 < 1024) ∧
  (∀ g : Int, 0 ≤ g → g < 10 → (A 4 ≤ g → ty_bit (i (9 + o) 2) g = false ∧ i (10 + o) g = 0 ∧ i (11 + o) g = 0 ∧ i (12 + o) g = 0) ∧
    (g < A 4 → A (132 + 14 * g) = (if ty_bit (i (9 + o) 2) g = true then 1 else 0) ∧ (i (10 + o) g = A (129 + 14 * g) ∧ 0 ≤ A (129 + 14 * g) ∧ A (129 + 14 * g) ≤ 1440) ∧ (i (11 + o) g = A (130 + 14 * g) ∧ 0 ≤ A (130 + 14 * g) ∧ A (130 + 14 * g) ≤ 1440) ∧ (i (12 + o) g = A (131 + 14 * g) ∧ 0 ≤ A (131 + 14 * g) ∧ A (131 + 14 * g) ≤ 1440))) ∧
  ∀ k g : Int, 0 ≤ k → k < A 10 → k < 50 → 0 ≤ g → g < A 4 → ty_bit (i (9 + o) 2) g = true → i (13 + o) (10 * k + g) = A (320 + 10 * k + g)
/-- a house -/
def ty_H (o : Nat) (i l : MI) (A : Int → Int) : Prop := ty_Hb o i l A ∧ ty_Hs o i A ∧ ty_Hp o i A ∧ ty_Hg o i A ∧ ty_Ho o i A ∧ ty_Hh o i A ∧ ty_Hl o i A ∧ ty_Hn o i A
/-- width, height -/
def ty_D (i l : MI) : Prop :=
  (2 ≤ i 123 0 ∧ i 123 0 ≤ 6) ∧ (2 ≤ i 123 1 ∧ i 123 1 ≤ 6) ∧ i 123 2 = i 123 0 * i 123 1 ∧ i 19 0 = i 123 0 ∧ i 19 1 = i 123 1 ∧ i 19 2 = i 123 2 ∧
  l 19 3 = 2 ^ (i 123 2).toNat - 1 ∧ (0 ≤ l 19 4 ∧ 0 ≤ l 19 5 ∧ l 19 4 < 2 ^ (i 123 2).toNat ∧ l 19 5 < 2 ^ (i 123 2).toNat) ∧
  (∀ c : Int, 0 ≤ c → c < i 123 2 → ty_bit (l 19 4) c = decide (c % i 123 0 = 0) ∧ ty_bit (l 19 5) c = decide (c % i 123 0 = i 123 0 - 1)) ∧
  ∀ k : Nat, px_gs k → (i k 2 = 0 ∨ i k 2 = 1) ∧ (i k 8 = 0 ∨ i k 8 = 1)
/-- the tape -/
def ty_T (i : MI) : Prop :=
  (i 58 1 = i 123 6 ∧ 0 ≤ i 123 6 ∧ i 123 6 ≤ 300) ∧ (∀ x : Int, 0 ≤ x → x < i 123 6 → 0 ≤ i 64 x ∧ i 64 x ≤ 255 ∧ i 126 x = px_i2b (i 64 x)) ∧
  (i 58 2 = 0 ∨ i 58 2 = 1) ∧ (i 58 2 = 0 → i 123 7 = -1 ∧ i 123 8 = -1) ∧ (i 58 2 = 1 → i 58 3 = i 123 7 ∧ i 58 4 = i 123 8)
theorem ty_D_2 {i l : MI} (h : ty_D i l) : 4 ≤ i 123 2 ∧ i 123 2 ≤ 36 := by
  obtain ⟨h0, h1, h2, _⟩ := h
  rw [h2]
  constructor
  · have := Int.mul_le_mul h0.1 h1.1 (by omega) (by omega)
    omega
  · have := Int.mul_le_mul h0.2 h1.2 (by omega) (by omega)
    omega
