/-! Numbers: Lean's Int in the places of int and long. -/
def px_r32 (x : Int) : Prop := -2147483648 ≤ x ∧ x < 2147483648
def px_r64 (x : Int) : Prop := -9223372036854775808 ≤ x ∧ x < 9223372036854775808
theorem px_t32 {x : Int} (h : px_r32 x) : (Int32.ofInt x).toInt = x := Int32.toInt_ofInt_of_le (by have := h.1; omega) (by have := h.2; omega)
theorem px_t64 {x : Int} (h : px_r64 x) : (Int64.ofInt x).toInt = x := Int64.toInt_ofInt_of_le (by have := h.1; omega) (by have := h.2; omega)
theorem px_ir32 (z : Int32) : px_r32 z.toInt := ⟨by have := z.le_toInt; omega, by have := z.toInt_lt; omega⟩
theorem px_ir64 (z : Int64) : px_r64 z.toInt := ⟨by have := z.le_toInt; omega, by have := z.toInt_lt; omega⟩
theorem px_w32_eq (x : Int) : px_w32 x = (Int32.ofInt x).toInt := by rw [Int32.toInt_ofInt]; rfl
theorem px_w64_eq (x : Int) : px_w64 x = (Int64.ofInt x).toInt := by rw [Int64.toInt_ofInt]; rfl
theorem px_w32_r (x : Int) : px_r32 (px_w32 x) := by rw [px_w32_eq]; exact px_ir32 _
theorem px_w64_r (x : Int) : px_r64 (px_w64 x) := by rw [px_w64_eq]; exact px_ir64 _
theorem px_w32_id {x : Int} (h : px_r32 x) : px_w32 x = x := by rw [px_w32_eq, px_t32 h]
theorem px_w64_id {x : Int} (h : px_r64 x) : px_w64 x = x := by rw [px_w64_eq, px_t64 h]
theorem px_o32 (x : Int) : Int32.ofInt (px_w32 x) = Int32.ofInt x := by rw [px_w32_eq, Int32.ofInt_toInt]
theorem px_o64 (x : Int) : Int64.ofInt (px_w64 x) = Int64.ofInt x := by rw [px_w64_eq, Int64.ofInt_toInt]
theorem px_inj32 {x y : Int} (hx : px_r32 x) (hy : px_r32 y) : Int32.ofInt x = Int32.ofInt y ↔ x = y := ⟨fun h => by rw [← px_t32 hx, ← px_t32 hy, h], fun h => by rw [h]⟩
theorem px_lt32 {x y : Int} (hx : px_r32 x) (hy : px_r32 y) : Int32.ofInt x < Int32.ofInt y ↔ x < y := by rw [Int32.lt_iff_toInt_lt, px_t32 hx, px_t32 hy]
theorem px_le32 {x y : Int} (hx : px_r32 x) (hy : px_r32 y) : Int32.ofInt x ≤ Int32.ofInt y ↔ x ≤ y := by rw [Int32.le_iff_toInt_le, px_t32 hx, px_t32 hy]
theorem px_lt64 {x y : Int} (hx : px_r64 x) (hy : px_r64 y) : Int64.ofInt x < Int64.ofInt y ↔ x < y := by rw [Int64.lt_iff_toInt_lt, px_t64 hx, px_t64 hy]
theorem px_inj64 {x y : Int} (hx : px_r64 x) (hy : px_r64 y) : Int64.ofInt x = Int64.ofInt y ↔ x = y := ⟨fun h => by rw [← px_t64 hx, ← px_t64 hy, h], fun h => by rw [h]⟩
theorem px_0r : px_r32 0 := ⟨by omega, by omega⟩
theorem px_o0 : Int32.ofInt 0 = 0 := by decide
theorem px_div32 {x y : Int} (hx : px_r32 x) (hy : px_r32 y) : Int32.ofInt x / Int32.ofInt y = Int32.ofInt (x.tdiv y) := by
  rw [← Int32.toInt_inj, Int32.toInt_div, px_t32 hx, px_t32 hy, Int32.toInt_ofInt]
theorem px_div64 {x y : Int} (hx : px_r64 x) (hy : px_r64 y) : Int64.ofInt x / Int64.ofInt y = Int64.ofInt (x.tdiv y) := by
  rw [← Int64.toInt_inj, Int64.toInt_div, px_t64 hx, px_t64 hy, Int64.toInt_ofInt]
theorem px_rem32 {x y : Int} (hx : px_r32 x) (hy : px_r32 y) : Int32.ofInt x - Int32.ofInt x / Int32.ofInt y * Int32.ofInt y = Int32.ofInt (x.tmod y) := by
  rw [px_div32 hx hy, ← Int32.ofInt_mul, ← Int32.ofInt_sub]
  congr 1
  have := Int.tmod_add_mul_tdiv x y
  rw [Int.mul_comm] at this
  omega
theorem px_remr {x y : Int} (hx : px_r32 x) (hy : ¬ y = 0) : px_r32 (x.tmod y) := by
  have h1 : (x.tmod y).natAbs = x.natAbs % y.natAbs := Int.natAbs_tmod x y
  have h2 : x.natAbs % y.natAbs ≤ x.natAbs := Nat.mod_le _ _
  obtain ⟨a, b⟩ := hx
  unfold px_r32
  rcases Int.le_total 0 x with h | h
  · have := Int.tmod_nonneg y h; omega
  · have h4 := Int.tmod_nonneg y (show 0 ≤ -x by omega)
    rw [Int.neg_tmod] at h4
    omega
theorem px_cmp_eq {x y : Int} (hx : px_r64 x) (hy : px_r64 y) : lg_cmp (Int64.ofInt x) (Int64.ofInt y) = Int32.ofInt (px_cmp x y) := by
  unfold lg_cmp px_cmp
  rcases Int.lt_trichotomy x y with h | h | h
  · have h1 : ¬ Int64.ofInt x > Int64.ofInt y := fun q => by have := (px_lt64 hy hx).mp q; omega
    have h2 : ¬ Int64.ofInt x = Int64.ofInt y := fun q => by have := (px_inj64 hx hy).mp q; omega
    rw [if_neg h1, if_neg h2, if_pos h]; decide
  · subst h
    have h1 : ¬ Int64.ofInt x > Int64.ofInt x := fun q => by have := (px_lt64 hy hx).mp q; omega
    rw [if_neg h1, if_pos rfl, if_neg (by omega), if_pos rfl]; decide
  · have h1 : Int64.ofInt x > Int64.ofInt y := (px_lt64 hy hx).mpr h
    rw [if_pos h1, if_neg (by omega), if_neg (by omega)]; decide
theorem px_cmpr (x y : Int) : px_r32 (px_cmp x y) := by unfold px_cmp px_r32; repeat' split <;> omega
theorem px_idx {x : Int} {n : Nat} (hx : px_r32 x) (h0 : 0 ≤ x) (h1 : x < n) : vp_in (Int32.ofInt x) n ∧ (Int32.ofInt x).toNatClampNeg = x.toNat := by
  refine ⟨vp_in_iff.mpr ⟨by rw [px_t32 hx]; exact h0, by rw [px_t32 hx]; exact h1⟩, ?_⟩
  show (Int32.ofInt x).toInt.toNat = _
  rw [px_t32 hx]
theorem px_i2bE (x : Int) : Int32.ofInt (px_i2b x) = (Int32.ofInt x).toInt8.toInt32 := by unfold px_i2b; rw [Int32.ofInt_toInt]
