/-! Perches given: countRoom (109), deal (108). -/
def tg_sd (room : Int → Int) (dry : Int → Bool) : Nat → Int → Int
  | 0, _ => 0
  | n + 1, p => (if dry p = true then room p else 0) + tg_sd room dry n (p + 1)
theorem tg_sd_b {room : Int → Int} {dry : Int → Bool} : ∀ (n : Nat) (p : Int), (∀ x, p ≤ x → x < p + n → 0 ≤ room x ∧ room x ≤ 4) → 0 ≤ tg_sd room dry n p ∧ tg_sd room dry n p ≤ 4 * n
  | 0, p, _ => ⟨Int.le_refl 0, Int.le_refl 0⟩
  | n + 1, p, h => by
    have h1 := h p (by omega) (by omega)
    have h2 := tg_sd_b (dry := dry) n (p + 1) (fun x x0 x1 => h x (by omega) (by omega))
    unfold tg_sd
    split <;> omega
theorem tg_sd_0 {room : Int → Int} {dry : Int → Bool} : ∀ (n : Nat) (p : Int), (∀ x, p ≤ x → x < p + n → room x = 0) → tg_sd room dry n p = 0
  | 0, _, _ => rfl
  | n + 1, p, h => by
    unfold tg_sd
    rw [h p (by omega) (by omega), tg_sd_0 n (p + 1) (fun x x0 x1 => h x (by omega) (by omega))]
    split <;> rfl
def tg_rm (i : MI) : Int → Int := fun p => if p < i 124 3 then i 124 (101 + 2 * p) else 0
def tg_dr (i : MI) (lv : Int) : Int → Bool := fun p => decide (lv ≤ i 124 (100 + 2 * p))
section TGD
variable {L t : Nat} {r : MR}
theorem tg_109_n (hr : px_hr r) (d : Nat) (l : MI) (lv P : Int) (room : Int → Int) (dry : Int → Bool) (hP : 0 ≤ P ∧ P ≤ 8) (hrm : ∀ x, 0 ≤ x → x < 8 → 0 ≤ room x ∧ room x ≤ 4) (hz : ∀ x, P ≤ x → x < 8 → room x = 0) : ∀ (n : Nat) (i : MI) (p : Int) (v3 : PV), px_nl v3 → i 4 5 = P → (∀ x, 0 ≤ x → x < P → i 15 x = room x ∧ (dry x = true ↔ lv ≤ i 14 x)) → 0 ≤ p → p + n = 8 → (0 ≤ i 116 4 ∧ i 116 4 ≤ 10 + 4 * p) →
    ∃ i1 : MI, px_X (d + 1 + 1) 109 (16, [vR 116, vI lv, vI p, v3], []) (px_sh L, i, l, r, t) = some (none, (px_sh L, i1, l, r, t)) ∧ ty_ch [116, 117] i i1 ∧ i1 116 4 = i 116 4 + tg_sd room dry n p ∧ (∀ x, p ≤ x → x < 8 → i1 117 x = room x) ∧ ∀ x, x < p → i1 117 x = i 117 x
  | 0, i, p, v3, hn3, h5, hro, hp, hn, hD => by
    refine ⟨i, by rw [b109_16 hr _ _ _ _ _ hn3, if_pos (by omega)], ty_ch_rf, ?_, fun x x0 x1 => by omega, fun _ _ => rfl⟩
    show _ = i 116 4 + 0
    omega
  | n + 1, i, p, v3, hn3, h5, hro, hp, hn, hD => by
    have wp : px_w32 (p + 1) = p + 1 := ty_w (by omega)
    have hrp := hrm p hp (by omega)
    have e48 : px_X (d + 1 + 1) 109 (16, [vR 116, vI lv, vI p, v3], []) (px_sh L, i, l, r, t) = px_X (d + 1 + 1) 109 (48, [vR 116, vI lv, vI p, v3], [vI (room p)]) (px_sh L, i, l, r, t) := by
      rw [b109_16 hr _ _ _ _ _ hn3, if_neg (by omega), h5]
      by_cases c : P ≤ p
      · rw [if_pos c, hz p c (by omega)]
      · rw [if_neg c, q33i hr _ _ _ (px_s15 L) (Nat.le_of_ble_eq_true rfl) _ (by omega), Option.bind_some, px_psh_some, b109_44 hr _ _ _ _ _ hn3, (hro p hp (by omega)).1]
    obtain ⟨j, hj⟩ : ∃ j : MI, j = px_up i 117 p (room p) := ⟨_, rfl⟩
    have cj : ty_ch [117] i j := by
      rw [hj]
      exact ty_ch_up (by decide)
    have e66 : px_X (d + 1 + 1) 109 (16, [vR 116, vI lv, vI p, v3], []) (px_sh L, i, l, r, t) = px_X (d + 1 + 1) 109 (66, [vR 116, vI lv, vI p, vI (room p)], [vI (i 14 p)]) (px_sh L, j, l, r, t) := by
      rw [e48, b109_48 hr _ _ _ _ _ hn3, q34i hr _ _ _ (px_s117 L) (Nat.le_of_ble_eq_true rfl) _ _ (by omega), Option.bind_some, px_psh_none, ← hj, b109_58 hr, q56 hr, ty_at_in (by omega), cj 14 (by decide), Option.bind_some, px_psh_some]
    have j4 : j 116 4 = i 116 4 := by rw [cj 116 (by decide)]
    obtain ⟨a, ha⟩ : ∃ a : Int, a = if dry p = true then room p else 0 := ⟨_, rfl⟩
    have hab : 0 ≤ a ∧ a ≤ 4 := by
      rw [ha]
      split <;> omega
    have fin : ∀ k : MI, ty_ch [116] j k → k 116 4 = i 116 4 + a → px_X (d + 1 + 1) 109 (16, [vR 116, vI lv, vI p, v3], []) (px_sh L, i, l, r, t) = px_X (d + 1 + 1) 109 (16, [vR 116, vI lv, vI (p + 1), vI (room p)], []) (px_sh L, k, l, r, t) →
        ∃ i1 : MI, px_X (d + 1 + 1) 109 (16, [vR 116, vI lv, vI p, v3], []) (px_sh L, i, l, r, t) = some (none, (px_sh L, i1, l, r, t)) ∧ ty_ch [116, 117] i i1 ∧ i1 116 4 = i 116 4 + tg_sd room dry (n + 1) p ∧ (∀ x, p ≤ x → x < 8 → i1 117 x = room x) ∧ ∀ x, x < p → i1 117 x = i 117 x := fun k ck k4 hx => by
      have cc : ty_ch [116, 117] i k := ty_ch_tr cj ck rfl rfl
      obtain ⟨i1, r1, c1, p1, p2, p3⟩ := tg_109_n hr d l lv P room dry hP hrm hz n k (p + 1) (vI (room p)) (px_nl_I _) (by rw [cc 4 (by decide)]; exact h5) (by rw [cc 15 (by decide), cc 14 (by decide)]; exact hro) (by omega) (by omega) (by omega)
      refine ⟨i1, hx.trans r1, ty_ch_tr cc c1 rfl rfl, ?_, fun x x0 x1 => ?_, fun x hx => ?_⟩
      · rw [p1, k4, ha]
        show _ = i 116 4 + ((if dry p = true then room p else 0) + tg_sd room dry n (p + 1))
        omega
      · by_cases ex : x = p
        · rw [ex, p3 p (by omega), ck 117 (by decide), hj, ty_up_eq]
        · exact p2 x (by omega) x1
      · rw [p3 x (by omega), ck 117 (by decide), hj, ty_up_j (by omega)]
    have h66 := b109_66 (L := L) (t := t) hr (d + 1 + 1) j l lv p (room p) (i 14 p)
    rw [wp, j4] at h66
    by_cases c : i 14 p < lv
    · rw [if_pos c] at h66
      refine fin j ty_ch_rf ?_ (e66.trans h66)
      rw [j4, ha]
      by_cases c2 : dry p = true
      · rw [if_pos c2]
        by_cases cP : p < P
        · have := ((hro p hp cP).2).mp c2
          omega
        · rw [hz p (by omega) (by omega)]
          omega
      · rw [if_neg c2]
        omega
    · rw [if_neg c, ty_w (x := i 116 4 + room p) (by omega)] at h66
      refine fin _ (ty_ch_up (by decide)) ?_ (e66.trans h66)
      rw [ty_up_eq, ha]
      by_cases c2 : dry p = true
      · rw [if_pos c2]
      · rw [if_neg c2]
        by_cases cP : p < P
        · exact absurd (((hro p hp cP).2).mpr (by omega)) c2
        · rw [hz p (by omega) (by omega)]
/-- countRoom -/
theorem tg_109 (hr : px_hr r) (d : Nat) (i l : MI) (lv : Int) (hQ : ty_HG i) :
    ∃ i1 : MI, px_C (d + 1 + 1) 109 [vR 116, vI lv] (px_sh L, i, l, r, t) = some (none, (px_sh L, i1, l, r, t)) ∧ ty_ch [116, 117] i i1 ∧ i1 116 4 = (if lv ≤ 0 then 10 else 0) + tg_sd (tg_rm i) (tg_dr i lv) 8 0 ∧ ∀ x, 0 ≤ x → x < 8 → i1 117 x = tg_rm i x := by
  have b3 := hQ.2.1
  have hro : ∀ x, 0 ≤ x → x < i 124 3 → i 15 x = tg_rm i x ∧ (1 ≤ tg_rm i x ∧ tg_rm i x ≤ 4) ∧ (tg_dr i lv x = true ↔ lv ≤ i 14 x) := fun x x0 x1 => by
    have h := hQ.2.2.1 x x0 x1
    have e : tg_rm i x = i 124 (101 + 2 * x) := if_pos x1
    rw [e]
    have h14 : i 14 x = i 124 (100 + 2 * x) := h.1.1
    refine ⟨h.2.1, h.2.2, ?_⟩
    rw [h14]
    exact decide_eq_true_iff
  obtain ⟨y, hy⟩ : ∃ y : Int, y = if lv ≤ 0 then 10 else 0 := ⟨_, rfl⟩
  have yb : 0 ≤ y ∧ y ≤ 10 := by
    rw [hy]
    split <;> omega
  obtain ⟨j, hj⟩ : ∃ j : MI, j = px_up i 116 4 y := ⟨_, rfl⟩
  have cj : ty_ch [116] i j := by
    rw [hj]
    exact ty_ch_up (by decide)
  obtain ⟨i1, r1, c1, p1, p2, -⟩ := tg_109_n (L := L) (r := r) (t := t) hr d l lv (i 124 3) (tg_rm i) (tg_dr i lv) b3.2 (fun x x0 x1 => by
    by_cases c : x < i 124 3
    · have := (hro x x0 c).2.1
      omega
    · have e : tg_rm i x = 0 := if_neg c
      omega) (fun x x0 x1 => if_neg (by omega)) 8 j 0 vJ px_nl_J (by rw [cj 4 (by decide)]; exact b3.1) (fun x x0 x1 => by
    rw [cj 15 (by decide), cj 14 (by decide)]
    exact ⟨(hro x x0 x1).1, (hro x x0 x1).2.2⟩) (by omega) (by omega) (by rw [hj, ty_up_eq]; omega)
  have j4 : j 116 4 = y := by rw [hj, ty_up_eq]
  refine ⟨i1, ?_, ty_ch_tr cj c1 rfl rfl, by rw [p1, j4, hy], p2⟩
  rw [e109, b109_0 hr]
  by_cases c : 0 < lv
  · rw [if_neg (by omega)] at hy
    rw [hy] at hj
    rw [if_pos c, ← hj, r1]
  · rw [if_pos (by omega)] at hy
    rw [hy] at hj
    rw [if_neg c, ← hj, r1]
end TGD
