/-! The hatch: sets, worth, ends. -/
theorem th_inv {k : Int} (hk : 0 ≤ k ∧ k < 10) : px_xor (px_shl 1 k) (-1) = -((2 ^ k.toNat : Nat) : Int) - 1 := by
  have h : ∀ k : Fin 10, px_xor (px_shl 1 (k.val : Int)) (-1) = -((2 ^ k.val : Nat) : Int) - 1 := by decide +kernel
  have h1 := h ⟨k.toNat, by omega⟩
  rw [show ((⟨k.toNat, by omega⟩ : Fin 10).val : Int) = k by show ((k.toNat : Nat) : Int) = k; omega] at h1
  exact h1
theorem th_rm_e {n p : Nat} (hn : n < 1024) (hp : p ≤ 512) : px_and (n : Int) (-(p : Int) - 1) = ((n &&& (4294967296 - (p + 1)) : Nat) : Int) := by
  unfold px_and
  show BitVec.toInt (BitVec.ofInt 32 (n : Int) &&& BitVec.ofInt 32 (-(p : Int) - 1)) = _
  have h : n &&& (4294967296 - (p + 1)) ≤ n := Nat.and_le_left
  refine ty_bv32_i ?_ (by omega)
  rw [BitVec.toNat_and, ty_bv32 (by omega), BitVec.toNat_ofInt]
  congr 1
  omega
/-- one out of a set -/
theorem th_rm {X k : Int} (hX : 0 ≤ X ∧ X < 1024) (hk : 0 ≤ k ∧ k < 10) : (0 ≤ px_and X (px_xor (px_shl 1 k) (-1)) ∧ px_and X (px_xor (px_shl 1 k) (-1)) < 1024) ∧ ∀ j, 0 ≤ j → j < 31 → ty_bit (px_and X (px_xor (px_shl 1 k) (-1))) j = (ty_bit X j && decide (j ≠ k)) := by
  obtain ⟨n, rfl⟩ : ∃ n : Nat, X = (n : Int) := ⟨X.toNat, by omega⟩
  obtain ⟨s, rfl⟩ : ∃ s : Nat, k = (s : Int) := ⟨k.toNat, by omega⟩
  have hp : 2 ^ s ≤ 2 ^ 9 := Nat.pow_le_pow_right (by omega) (by omega)
  have e : px_and (n : Int) (px_xor (px_shl 1 (s : Int)) (-1)) = ((n &&& (4294967296 - (2 ^ s + 1)) : Nat) : Int) := by
    rw [th_inv hk, Int.toNat_natCast]
    exact th_rm_e (by omega) (by omega)
  have h : n &&& (4294967296 - (2 ^ s + 1)) ≤ n := Nat.and_le_left
  rw [e]
  refine ⟨by omega, fun j j0 j1 => ?_⟩
  unfold ty_bit
  rw [Int.toNat_natCast, Int.toNat_natCast, Nat.testBit_and, show 4294967296 - (2 ^ s + 1) = 2 ^ 32 - (2 ^ s + 1) from rfl, Nat.testBit_two_pow_sub_succ (by omega), decide_eq_true (show j.toNat < 32 by omega), Bool.true_and, Nat.testBit_two_pow]
  congr 1
  by_cases hj : j = (s : Int)
  · rw [decide_eq_true (show s = j.toNat by omega), decide_eq_false (fun h => h hj)]
    rfl
  · rw [decide_eq_false (show ¬ s = j.toNat by omega), decide_eq_true hj]
    rfl
theorem th_b1 {X k : Int} (hX : 0 ≤ X ∧ X < 1024) (hk : 0 ≤ k ∧ k < 10) : px_and (px_shr X k) 1 = 1 ↔ ty_bit X k = true := by
  obtain ⟨n, rfl⟩ : ∃ n : Nat, X = (n : Int) := ⟨X.toNat, by omega⟩
  obtain ⟨s, rfl⟩ : ∃ s : Nat, k = (s : Int) := ⟨k.toNat, by omega⟩
  exact ty_bit_1 (by omega) (by omega)
/-- no bit: nothing -/
theorem th_0 {X : Int} (hX : 0 ≤ X ∧ X < 1024) (h : ∀ j, 0 ≤ j → j < 10 → ty_bit X j = false) : X = 0 := by
  obtain ⟨n, rfl⟩ : ∃ n : Nat, X = (n : Int) := ⟨X.toNat, by omega⟩
  have : n = 0 := by
    apply Nat.eq_of_testBit_eq
    intro j
    rw [Nat.zero_testBit]
    by_cases hj : j < 10
    · have h1 := h (j : Int) (by omega) (by omega)
      unfold ty_bit at h1
      rw [Int.toNat_natCast, Int.toNat_natCast] at h1
      exact h1
    · exact Nat.testBit_lt_two_pow (Nat.lt_of_lt_of_le (show n < 2 ^ 10 by omega) (Nat.pow_le_pow_right (by omega) (by omega)))
  rw [this]
  rfl
theorem th_z (j : Int) : ty_bit 0 j = false := by
  unfold ty_bit
  exact Nat.zero_testBit _
/-- worth -/
def th_wo (rk : Int → Int) (X : Int) : Nat → Int → Int
  | 0, _ => 0
  | n + 1, g => (if ty_bit X g = true then rk g + 1 else 0) + th_wo rk X n (g + 1)
theorem th_wo_b {rk : Int → Int} {X : Int} : ∀ (n : Nat) (g : Int), (∀ x, g ≤ x → x < g + n → 0 ≤ rk x ∧ rk x ≤ 9) → 0 ≤ th_wo rk X n g ∧ th_wo rk X n g ≤ 10 * n
  | 0, _, _ => ⟨Int.le_refl 0, Int.le_refl 0⟩
  | n + 1, g, h => by
    have h1 := th_wo_b (X := X) n (g + 1) (fun x x0 x1 => h x (by omega) (by omega))
    have h2 := h g (by omega) (by omega)
    unfold th_wo
    split <;> omega
/-- the first minute from t on -/
def th_fs (P : Int → Bool) : Nat → Int → Int
  | 0, t => t
  | n + 1, t => if P t = true then t else th_fs P n (t + 1)
theorem th_fs_at {P : Int → Bool} : ∀ (n : Nat) (t u : Int), t ≤ u → u < t + n → (∀ v, t ≤ v → v < u → P v = false) → P u = true → th_fs P n t = u
  | 0, t, u, h1, h2, _, _ => by omega
  | n + 1, t, u, h1, h2, h3, h4 => by
    unfold th_fs
    by_cases e : t = u
    · rw [e, if_pos h4]
    · rw [h3 t (by omega) (by omega), if_neg (by decide)]
      exact th_fs_at n (t + 1) u (by omega) (by omega) (fun v v0 v1 => h3 v (by omega) v1) h4
theorem th_fs_no {P : Int → Bool} : ∀ (n : Nat) (t : Int), (∀ v, t ≤ v → v < t + n → P v = false) → th_fs P n t = t + n
  | 0, t, _ => by
    show t = t + 0
    omega
  | n + 1, t, h => by
    unfold th_fs
    rw [h t (by omega) (by omega), if_neg (by decide), th_fs_no n (t + 1) (fun v v0 v1 => h v (by omega) (by omega))]
    omega
theorem th_fs_b {P : Int → Bool} : ∀ (n : Nat) (t : Int), t ≤ th_fs P n t ∧ th_fs P n t ≤ t + n
  | 0, t => by
    show t ≤ t ∧ t ≤ t + ((0 : Nat) : Int)
    omega
  | n + 1, t => by
    have := th_fs_b (P := P) n (t + 1)
    unfold th_fs
    split <;> omega
section THA
variable {L t : Nat} {r : MR}
theorem th_112_n (hr : px_hr r) (d : Nat) (i l : MI) (rk : Int → Int) (X G : Int) (hX : 0 ≤ X ∧ X < 1024) (hG : i 4 6 = G ∧ 0 ≤ G ∧ G ≤ 10) (hk : ∀ g, 0 ≤ g → g < G → i (21 + g.toNat) 0 = rk g ∧ 0 ≤ rk g ∧ rk g ≤ 9) : ∀ (n : Nat) (g x2 : Int) (v4 : PV), px_nl v4 → 0 ≤ g → g + n = G → 0 ≤ x2 → x2 ≤ 10 * g →
    px_X (d + 1) 112 (4, [vR 116, vI X, vI x2, vI g, v4], []) (px_sh L, i, l, r, t) = some (some (vI (x2 + th_wo rk X n g)), (px_sh L, i, l, r, t))
  | 0, g, x2, v4, hn4, hg, hn, h20, h21 => by
    rw [b112_4 hr _ _ _ _ _ _ hn4, if_pos (by omega)]
    show _ = some (some (vI (x2 + 0)), (px_sh L, i, l, r, t))
    rw [Int.add_zero]
  | n + 1, g, x2, v4, hn4, hg, hn, h20, h21 => by
    have hkg := hk g hg (by omega)
    have hgs : px_gs (21 + g.toNat) := px_gs_mk21 (by omega)
    have wg : px_w32 (g + 1) = g + 1 := ty_w (by omega)
    rw [b112_4 hr _ _ _ _ _ _ hn4, if_neg (by omega), q52R hr _ _ _ _ (by omega), Option.bind_some, px_psh_some, b112_23_g hr _ _ _ _ _ _ hn4 hgs, q32 hr _ _ _ _ _ hX.1 (by omega), Option.bind_some, px_psh_some, b112_35 hr _ _ _ _ _ _ hgs, wg, hkg.1, ty_w (x := rk g + 1) (by omega), ty_w (x := x2 + (rk g + 1)) (by omega)]
    by_cases hb : ty_bit X g = true
    · rw [px_bi_T ⟨by omega, by omega, hb⟩, if_neg (by omega), th_112_n hr d i l rk X G hX hG hk n (g + 1) (x2 + (rk g + 1)) _ (px_nl_R _) (by omega) (by omega) (by omega) (by omega)]
      show _ = some (some (vI (x2 + ((if ty_bit X g = true then rk g + 1 else 0) + th_wo rk X n (g + 1)))), (px_sh L, i, l, r, t))
      rw [if_pos hb, Int.add_assoc]
    · rw [px_bi_F (fun h => hb h.2.2), if_pos rfl, th_112_n hr d i l rk X G hX hG hk n (g + 1) x2 _ (px_nl_R _) (by omega) (by omega) (by omega) (by omega)]
      show _ = some (some (vI (x2 + ((if ty_bit X g = true then rk g + 1 else 0) + th_wo rk X n (g + 1)))), (px_sh L, i, l, r, t))
      rw [if_neg hb, Int.zero_add]
def th_rk (i : MI) : Int → Int := fun g => i 124 (120 + 14 * g)
theorem th_rk_b {i : MI} (hQ : ty_HG i) {g : Int} (hg : 0 ≤ g ∧ g < i 124 4) : i (21 + g.toNat) 0 = th_rk i g ∧ 0 ≤ th_rk i g ∧ th_rk i g ≤ 9 := by
  have h := hQ.2.2.2.1 g hg.1 hg.2 0 (by omega) (by omega)
  have e := h.1
  have e2 := h.2.1
  have e3 := h.2.2.1 (by omega)
  rw [show 120 + 14 * g + 0 = 120 + 14 * g by omega] at e e2 e3
  exact ⟨e, e2, e3⟩
/-- worthOf -/
theorem th_112 (hr : px_hr r) (d : Nat) (i l : MI) (X : Int) (hX : 0 ≤ X ∧ X < 1024) (hQ : ty_HG i) : px_C (d + 1) 112 [vR 116, vI X] (px_sh L, i, l, r, t) = some (some (vI (th_wo (th_rk i) X (i 124 4).toNat 0)), (px_sh L, i, l, r, t)) := by
  have b4 := hQ.1
  rw [e112, b112_0 hr, th_112_n hr d i l (th_rk i) X (i 124 4) hX b4 (fun g g0 g1 => th_rk_b hQ ⟨g0, g1⟩) (i 124 4).toNat 0 0 vJ px_nl_J (by omega) (by omega) (by omega) (by omega), Int.zero_add]
end THA
