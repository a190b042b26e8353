/-! Contracts of the small helpers. -/
theorem px_bi_T {c : Prop} [Decidable c] (h : c) : px_bi c = 1 := by
  unfold px_bi
  exact if_pos h
theorem px_bi_F {c : Prop} [Decidable c] (h : ¬ c) : px_bi c = 0 := by
  unfold px_bi
  exact if_neg h
theorem px_bi_0 {c : Prop} [Decidable c] : (px_bi c = 0) = ¬ c := by
  apply propext
  by_cases h : c
  · rw [px_bi_T h]
    exact ⟨fun h => by omega, fun h' => absurd h h'⟩
  · rw [px_bi_F h]
    exact ⟨fun _ => h, fun _ => rfl⟩
theorem px_bi_c {c c' : Prop} [Decidable c] [Decidable c'] (h : c ↔ c') : px_bi c = px_bi c' := by
  by_cases hc : c
  · rw [px_bi_T hc, px_bi_T (h.mp hc)]
  · rw [px_bi_F hc, px_bi_F (fun h' => hc (h.mpr h'))]
theorem ty_w {x : Int} (h : -2147483648 ≤ x ∧ x < 2147483648) : px_w32 x = x := px_w32_id h
theorem ty_un_id {α : Type} {f : Nat → Int → α} {k : Nat} {g : Int → α} (h : ∀ j, g j = f k j) : px_un f k g = f := by
  funext k' j
  unfold px_un
  by_cases hk : k' = k
  · rw [if_pos hk, h j, hk]
  · rw [if_neg hk]
theorem ty_un_up {α : Type} {f : Nat → Int → α} {k : Nat} {x : Int} {v : α} {g g' : Int → α} (h : ∀ j, g j = g' j) : px_un (px_up f k x v) k g = px_un f k g' := by
  funext k' j
  unfold px_un
  by_cases hk : k' = k
  · rw [if_pos hk, if_pos hk, h j]
  · rw [if_neg hk, if_neg hk]
    exact if_neg (fun h => hk h.1)
theorem ty_up_eq {α : Type} {f : Nat → Int → α} {k : Nat} {x : Int} {v : α} : px_up f k x v k x = v := if_pos ⟨rfl, rfl⟩
theorem ty_up_j {α : Type} {f : Nat → Int → α} {k k' : Nat} {x y : Int} {v : α} (h : y ≠ x) : px_up f k x v k' y = f k' y := if_neg (fun h' => h h'.2)
theorem ty_up_k {α : Type} {f : Nat → Int → α} {k k' : Nat} {x y : Int} {v : α} (h : k' ≠ k) : px_up f k x v k' y = f k' y := if_neg (fun h' => h h'.1)
theorem ty_un_eq {α : Type} {f : Nat → Int → α} {k : Nat} {x : Int} {g : Int → α} : px_un f k g k x = g x := if_pos rfl
theorem ty_un_k {α : Type} {f : Nat → Int → α} {k k' : Nat} {x : Int} {g : Int → α} (h : k' ≠ k) : px_un f k g k' x = f k' x := if_neg h
section PXH
variable {L t : Nat} {r : MR}
theorem q30 (hr : px_hr r) (d : Nat) (i l : MI) (x a b : Int) : px_C d 30 [vI x, vI a, vI b] (px_sh L, i, l, r, t) = some (some (vI (px_bi (a ≤ x ∧ x ≤ b))), (px_sh L, i, l, r, t)) := by
  rw [e30, b30_0 hr]
  by_cases h1 : x < a
  · rw [if_pos h1, px_bi_F (by omega)]
  · rw [if_neg h1]
    by_cases h2 : b < x
    · rw [if_pos h2, px_bi_F (by omega)]
    · rw [if_neg h2, px_bi_T (by omega)]
theorem q141 (hr : px_hr r) (d : Nat) (i l : MI) (x a b : Int) : px_C d 141 [vI x, vI a, vI b] (px_sh L, i, l, r, t) = some (some (vI (px_bi (a ≤ x ∧ x ≤ b))), (px_sh L, i, l, r, t)) := by
  rw [e141, b141_0 hr]
  by_cases h1 : x < a
  · rw [if_pos h1, px_bi_F (by omega)]
  · rw [if_neg h1]
    by_cases h2 : b < x
    · rw [if_pos h2, px_bi_F (by omega)]
    · rw [if_neg h2, px_bi_T (by omega)]
theorem q31 (hr : px_hr r) (d : Nat) (i l : MI) (x : Int) : px_C (d + 1) 31 [vI x] (px_sh L, i, l, r, t) = some (some (vI (px_bi (0 ≤ x ∧ x ≤ 1439))), (px_sh L, i, l, r, t)) := by
  rw [e31, b31_0 hr, q30 hr, Option.bind_some, px_psh_some, b31_8 hr _ _ _ _ _ px_bi01]
theorem q145 (hr : px_hr r) (d : Nat) (i l : MI) (x : Int) : px_C (d + 1) 145 [vI x] (px_sh L, i, l, r, t) = some (some (vI (px_bi (0 ≤ x ∧ x ≤ 1439))), (px_sh L, i, l, r, t)) := by
  rw [e145, b145_0 hr, q141 hr, Option.bind_some, px_psh_some, b145_8 hr _ _ _ _ _ px_bi01]
theorem q37 (hr : px_hr r) (d : Nat) (i l : MI) (x : Int) : px_C d 37 [vR 19, vI x] (px_sh L, i, l, r, t) = some (some (vI (px_bi (0 ≤ x ∧ x < i 19 2))), (px_sh L, i, l, r, t)) := by
  rw [e37, b37_0 hr]
  by_cases h1 : x < 0
  · rw [if_pos h1, px_bi_F (by omega)]
  · rw [if_neg h1]
    by_cases h2 : i 19 2 ≤ x
    · rw [if_pos h2, px_bi_F (by omega)]
    · rw [if_neg h2, px_bi_T (by omega)]
theorem q143 (hr : px_hr r) (d : Nat) (i l : MI) (x : Int) (h : 0 ≤ i 123 2 ∧ i 123 2 ≤ 36) : px_C (d + 1) 143 [vR 123, vI x] (px_sh L, i, l, r, t) = some (some (vI (px_bi (0 ≤ x ∧ x < i 123 2))), (px_sh L, i, l, r, t)) := by
  rw [e143, b143_0 hr, ty_w (by omega), q141 hr, Option.bind_some, px_psh_some, b143_11 hr _ _ _ _ _ px_bi01, px_bi_c (c' := 0 ≤ x ∧ x < i 123 2) (by omega)]
theorem q144 (hr : px_hr r) (d : Nat) (i l : MI) (x : Int) (h : 0 ≤ i 124 4 ∧ i 124 4 ≤ 10) : px_C (d + 1) 144 [vR 123, vI x] (px_sh L, i, l, r, t) = some (some (vI (px_bi (0 ≤ x ∧ x < i 124 4))), (px_sh L, i, l, r, t)) := by
  rw [e144, b144_0 hr, ty_w (by omega), q141 hr, Option.bind_some, px_psh_some, b144_13 hr _ _ _ _ _ px_bi01, px_bi_c (c' := 0 ≤ x ∧ x < i 124 4) (by omega)]
/-- a place of a row, 0 outside -/
def ty_at (f : Int → Int) (n : Nat) (x : Int) : Int := if 0 ≤ x ∧ x < (n : Int) then f x else 0
theorem ty_at_in {f : Int → Int} {n : Nat} {x : Int} (h : 0 ≤ x ∧ x < (n : Int)) : ty_at f n x = f x := if_pos h
theorem q33 (hr : px_hr r) (d : Nat) (i l : MI) {k n : Nat} (hk : (px_sh L)[k]? = some (.inr (0, n))) (h3 : 3 ≤ k) (x : Int) : px_C d 33 [vR k, vI x] (px_sh L, i, l, r, t) = some (some (vI (ty_at (i k) n x)), (px_sh L, i, l, r, t)) := by
  rw [e33, b33_0 hr d i l hk h3 x (fun _ _ => by omega)]
  unfold ty_at
  by_cases h1 : x < 0
  · rw [if_pos h1, if_neg (by omega)]
  · rw [if_neg h1]
    by_cases h2 : x < (n : Int)
    · rw [if_pos h2, if_pos (by omega)]
    · rw [if_neg h2, if_neg (by omega)]
theorem q33i (hr : px_hr r) (d : Nat) (i l : MI) {k n : Nat} (hk : (px_sh L)[k]? = some (.inr (0, n))) (h3 : 3 ≤ k) (x : Int) (h : 0 ≤ x ∧ x < (n : Int)) : px_C d 33 [vR k, vI x] (px_sh L, i, l, r, t) = some (some (vI (i k x)), (px_sh L, i, l, r, t)) := by
  rw [q33 hr d i l hk h3, ty_at_in h]
theorem q34 (hr : px_hr r) (d : Nat) (i l : MI) {k n : Nat} (hk : (px_sh L)[k]? = some (.inr (0, n))) (h3 : 3 ≤ k) (x v : Int) : px_C d 34 [vR k, vI x, vI v] (px_sh L, i, l, r, t) = some (none, (px_sh L, if 0 ≤ x ∧ x < (n : Int) then px_up i k x v else i, l, r, t)) := by
  rw [e34, b34_0 hr d i l hk h3 x v (fun _ _ => by omega)]
  by_cases h1 : x < 0
  · rw [if_pos h1, if_neg (by omega)]
  · rw [if_neg h1]
    by_cases h2 : (n : Int) ≤ x
    · rw [if_pos h2, if_neg (by omega)]
    · rw [if_neg h2, if_pos (by omega)]
theorem q34i (hr : px_hr r) (d : Nat) (i l : MI) {k n : Nat} (hk : (px_sh L)[k]? = some (.inr (0, n))) (h3 : 3 ≤ k) (x v : Int) (h : 0 ≤ x ∧ x < (n : Int)) : px_C d 34 [vR k, vI x, vI v] (px_sh L, i, l, r, t) = some (none, (px_sh L, px_up i k x v, l, r, t)) := by
  rw [q34 hr d i l hk h3, if_pos h]
/-- a row copied to one as long -/
theorem q35 (hr : px_hr r) (d : Nat) (i l : MI) {k k' n : Nat} (hk : (px_sh L)[k]? = some (.inr (0, n))) (h3 : 3 ≤ k) (hk' : (px_sh L)[k']? = some (.inr (0, n))) (h3' : 3 ≤ k') : px_C d 35 [vR k, vR k'] (px_sh L, i, l, r, t) = some (none, (px_sh L, px_un i k' (fun j => if 0 ≤ j ∧ j < (n : Int) then i k j else i k' j), l, r, t)) := by
  have e : (if (n : Int) < (n : Int) then (n : Int) else (n : Int)) = (n : Int) := if_neg (by omega)
  rw [e35, b35_0 hr d i l hk h3 hk' h3' (by rw [e]; omega), e]
  simp only [Int.zero_add, Int.sub_zero]
theorem q38 (hr : px_hr r) (d : Nat) (i l : MI) (x : Int) : px_C (d + 1) 38 [vR 19, vI x] (px_sh L, i, l, r, t) = some (some (vI (ty_at (i 20) 36 x)), (px_sh L, i, l, r, t)) := by
  rw [e38, b38_0 hr, q33 hr _ _ _ (px_s20 L) (Nat.le_of_ble_eq_true rfl), Option.bind_some, px_psh_some, b38_8 hr]
theorem q52N (hr : px_hr r) (d : Nat) (i l : MI) (x : Int) (h : ¬ (0 ≤ x ∧ x < i 4 6 ∧ x < 10)) : px_C d 52 [vR 4, vI x] (px_sh L, i, l, r, t) = some (some vN, (px_sh L, i, l, r, t)) := by
  rw [e52, b52_0 hr _ _ _ _ (by omega)]
  by_cases h1 : x < 0
  · rw [if_pos h1]
  · rw [if_neg h1]
    by_cases h2 : i 4 6 ≤ x
    · rw [if_pos h2]
    · rw [if_neg h2, if_pos (by omega)]
theorem q52R (hr : px_hr r) (d : Nat) (i l : MI) (x : Int) (h : 0 ≤ x ∧ x < i 4 6 ∧ x < 10) : px_C d 52 [vR 4, vI x] (px_sh L, i, l, r, t) = some (some (vR (21 + x.toNat)), (px_sh L, i, l, r, t)) := by
  rw [e52, b52_0 hr _ _ _ _ (by omega), if_neg (by omega), if_neg (by omega), if_neg (by omega)]
theorem q146 (hr : px_hr r) (d : Nat) (i l : MI) (g c : Int) (h : 0 ≤ g ∧ g < 10) (hc : 0 ≤ c ∧ c < 14) : px_C d 146 [vR 123, vI g, vI c] (px_sh L, i, l, r, t) = some (some (vI (i 124 (120 + 14 * g + c))), (px_sh L, i, l, r, t)) := by
  have e1 : px_w32 (14 * g) = 14 * g := ty_w (by omega)
  have e2 : px_w32 (120 + 14 * g) = 120 + 14 * g := ty_w (by omega)
  have e3 : px_w32 (120 + 14 * g + c) = 120 + 14 * g + c := ty_w (by omega)
  have hb := b146_0 (L := L) (t := t) hr d i l g c
  rw [e1, e2, e3] at hb
  rw [e146, hb (by omega)]
theorem ty_fill_a : ∀ (n : Nat) (hr : px_hr r) (d : Nat) (i l : MI) {k N : Nat} (_ : (px_sh L)[k]? = some (.inr (0, N))) (_ : 3 ≤ k) (_ : N < 2147483647) (v x : Int) (_ : 0 ≤ x) (_ : x + n = N), px_X d 241 (5, [vR k, vI v, vI x, vI (N : Int)], []) (px_sh L, i, l, r, t) = some (none, (px_sh L, px_un i k (fun j => if x ≤ j ∧ j < (N : Int) then v else i k j), l, r, t))
  | 0, hr, d, i, l, k, N, hk, h3, hN, v, x, hx, hn => by
    rw [b241_5 hr d i l hk h3 v x N (by omega), if_pos (by omega)]
    rw [ty_un_id (fun j => if_neg (by omega))]
  | n + 1, hr, d, i, l, k, N, hk, h3, hN, v, x, hx, hn => by
    rw [b241_5 hr d i l hk h3 v x N (by omega), if_neg (by omega), ty_w (by omega), ty_fill_a n hr d _ l hk h3 hN v (x + 1) (by omega) (by omega)]
    rw [ty_un_up (g' := fun j => if x ≤ j ∧ j < (N : Int) then v else i k j) (fun j => ?_)]
    by_cases h1 : x + 1 ≤ j ∧ j < (N : Int)
    · rw [if_pos h1, if_pos (by omega)]
    · rw [if_neg h1]
      by_cases h2 : j = x
      · rw [h2, ty_up_eq, if_pos (by omega)]
      · rw [ty_up_j (by omega), if_neg (by omega)]
theorem q241 (hr : px_hr r) (d : Nat) (i l : MI) {k n : Nat} (hk : (px_sh L)[k]? = some (.inr (0, n))) (h3 : 3 ≤ k) (hn : n < 2147483647) (v : Int) : px_C d 241 [vR k, vI v] (px_sh L, i, l, r, t) = some (none, (px_sh L, px_un i k (fun j => if 0 ≤ j ∧ j < (n : Int) then v else i k j), l, r, t)) := by
  rw [e241, b241_0 hr d i l hk h3, ty_fill_a n hr d i l hk h3 hn v 0 (by omega) (by omega)]
theorem ty_fill_l : ∀ (n : Nat) (hr : px_hr r) (d : Nat) (i l : MI) {k N : Nat} (_ : (px_sh L)[k]? = some (.inr (3, N))) (_ : 3 ≤ k) (_ : N < 2147483647) (v x : Int) (_ : 0 ≤ x) (_ : x + n = N), px_X d 242 (6, [vR k, vL v, vJ, vI x, vI (N : Int)], []) (px_sh L, i, l, r, t) = some (none, (px_sh L, i, px_un l k (fun j => if x ≤ j ∧ j < (N : Int) then v else l k j), r, t))
  | 0, hr, d, i, l, k, N, hk, h3, hN, v, x, hx, hn => by
    rw [b242_6 hr d i l hk h3 v x N (by omega), if_pos (by omega)]
    rw [ty_un_id (fun j => if_neg (by omega))]
  | n + 1, hr, d, i, l, k, N, hk, h3, hN, v, x, hx, hn => by
    rw [b242_6 hr d i l hk h3 v x N (by omega), if_neg (by omega), ty_w (by omega), ty_fill_l n hr d i _ hk h3 hN v (x + 1) (by omega) (by omega)]
    rw [ty_un_up (g' := fun j => if x ≤ j ∧ j < (N : Int) then v else l k j) (fun j => ?_)]
    by_cases h1 : x + 1 ≤ j ∧ j < (N : Int)
    · rw [if_pos h1, if_pos (by omega)]
    · rw [if_neg h1]
      by_cases h2 : j = x
      · rw [h2, ty_up_eq, if_pos (by omega)]
      · rw [ty_up_j (by omega), if_neg (by omega)]
theorem q242 (hr : px_hr r) (d : Nat) (i l : MI) {k n : Nat} (hk : (px_sh L)[k]? = some (.inr (3, n))) (h3 : 3 ≤ k) (hn : n < 2147483647) (v : Int) : px_C d 242 [vR k, vL v] (px_sh L, i, l, r, t) = some (none, (px_sh L, i, px_un l k (fun j => if 0 ≤ j ∧ j < (n : Int) then v else l k j), r, t)) := by
  rw [e242, b242_0 hr d i l hk h3, ty_fill_l n hr d i l hk h3 hn v 0 (by omega) (by omega)]
/-- forgetLevels -/
theorem q63 (hr : px_hr r) (d : Nat) (i l : MI) : px_C (d + 1) 63 [vR 68] (px_sh L, i, l, r, t) = some (none, (px_sh L, px_un i 70 (fun j => if 0 ≤ j ∧ j < 1440 then -1 else i 70 j), l, r, t)) := by
  rw [e63, b63_0 hr, q241 hr _ _ _ (px_s70 L) (Nat.le_of_ble_eq_true rfl) (by omega), Option.bind_some, px_psh_none, b63_8 hr]
  rfl
end PXH
