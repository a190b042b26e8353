/-! THE TEXT in force: what its clauses say, in both memories. -/
/-- the text in force is well kept -/
def ty_LW (i : MI) : Prop := i 4 8 = i 124 6 ∧ -1 ≤ i 124 6 ∧ i 124 6 < 6 ∧ (¬ i 124 6 = -1 → ty_tx i (i 124 6).toNat)
theorem ty_LW_c {i i' : MI} (h4 : i' 4 8 = i 4 8) (h5 : i' 124 6 = i 124 6) (ht : ∀ k, 73 ≤ k → k < 103 → i' k = i k) (hm : ∀ k, 127 ≤ k → k < 132 → i' k = i k) (h : ty_LW i) : ty_LW i' := by
  unfold ty_LW
  rw [h4, h5]
  refine ⟨h.1, h.2.1, h.2.2.1, fun hn => ?_⟩
  have b1 := h.2.1
  have b2 := h.2.2.1
  exact ty_tx_c (fun k k0 k1 => ht k (by omega) (by omega)) (hm _ (by omega) (by omega)) (hm _ (by omega) (by omega)) (hm _ (by omega) (by omega)) (hm _ (by omega) (by omega)) (hm _ (by omega) (by omega)) (h.2.2.2 hn)
/-- the place of the clause of a kind; -1: none -/
def ty_fnd (i : MI) (kind : Int) : Int := if i 4 8 = -1 then -1 else ty_find i (73 + 5 * (i 4 8).toNat) kind (i (73 + 5 * (i 4 8).toNat) 1).toNat 0
def ty_vl (i : MI) (k : Int) (env : Int → Int) : Int := ty_val i (73 + 5 * (i 4 8).toNat) k env
theorem ty_says_eq (i : MI) (kind most w : Int) (env : Int → Int) : ty_says i kind most w env = if ty_fnd i kind = -1 then w else max 0 (min most (ty_vl i (ty_fnd i kind) env)) := by
  unfold ty_says ty_fnd ty_vl
  by_cases h : i 4 8 = -1
  · rw [if_pos h, if_pos h, if_pos rfl]
  · rw [if_neg h, if_neg h]
theorem ty_find_spec (i : MI) (T : Nat) (kind : Int) : ∀ (n : Nat) (k : Int), 0 ≤ k → (ty_find i T kind n k = -1 ∧ ∀ j, k ≤ j → j < k + n → ¬ i (T + 2) j = kind) ∨ (k ≤ ty_find i T kind n k ∧ ty_find i T kind n k < k + n ∧ i (T + 2) (ty_find i T kind n k) = kind)
  | 0, k, h => Or.inl ⟨rfl, fun j j0 j1 => by omega⟩
  | n + 1, k, h => by
    unfold ty_find
    by_cases h1 : i (T + 2) k = kind
    · rw [if_pos h1]
      exact Or.inr ⟨by omega, by omega, h1⟩
    · rw [if_neg h1]
      rcases ty_find_spec i T kind n (k + 1) (by omega) with ⟨h2, h3⟩ | ⟨h2, h3, h4⟩
      · refine Or.inl ⟨h2, fun j j0 j1 => ?_⟩
        by_cases hj : j = k
        · rw [hj]; exact h1
        · exact h3 j (by omega) (by omega)
      · exact Or.inr ⟨by omega, by omega, h4⟩
/-- the clause found -/
theorem ty_fnd_cl {i : MI} (hL : ty_LW i) {kind : Int} (h : ¬ ty_fnd i kind = -1) : ∃ q : Nat, q < 6 ∧ i 4 8 = (q : Int) ∧ i 124 6 = (q : Int) ∧ ty_tx i q ∧ (0 ≤ ty_fnd i kind ∧ ty_fnd i kind < i 127 q) ∧ ty_cl i q (ty_fnd i kind) ∧ i (75 + 5 * q) (ty_fnd i kind) = kind := by
  obtain ⟨h1, h2, h3, h4⟩ := hL
  by_cases h0 : i 4 8 = -1
  · exact absurd (if_pos h0) h
  · have e : ty_fnd i kind = ty_find i (73 + 5 * (i 4 8).toNat) kind (i (73 + 5 * (i 4 8).toNat) 1).toNat 0 := if_neg h0
    have ht := h4 (by omega)
    rw [← h1] at ht
    refine ⟨(i 4 8).toNat, by omega, by omega, by omega, ht, ?_⟩
    have hs := ty_find_spec i (73 + 5 * (i 4 8).toNat) kind (i (73 + 5 * (i 4 8).toNat) 1).toNat 0 (by omega)
    rw [← e] at hs
    have hc := ht.1
    rcases hs with ⟨h5, -⟩ | ⟨h5, h6, h7⟩
    · exact absurd h5 h
    · have hb : 0 ≤ ty_fnd i kind ∧ ty_fnd i kind < i 127 ((i 4 8).toNat : Int) := ⟨h5, by omega⟩
      refine ⟨hb, ht.2.1 _ hb.1 hb.2, ?_⟩
      rw [show 75 + 5 * (i 4 8).toNat = 73 + 5 * (i 4 8).toNat + 2 by omega]
      exact h7
theorem ty_vl_c {i : MI} (hL : ty_LW i) {kind : Int} (hk : ¬ ty_fnd i kind = -1) {env env' : Int → Int} (h : ∀ v, 0 ≤ v → v < 15 → ty_may kind v → env' v = env v) : ty_vl i (ty_fnd i kind) env' = ty_vl i (ty_fnd i kind) env := by
  obtain ⟨q, hq, e1, e2, ht, hb, hc, hkk⟩ := ty_fnd_cl hL hk
  unfold ty_vl
  rw [e1, Int.toNat_natCast]
  refine ty_val_c hc ?_
  rw [hkk]
  exact h
theorem ty_says_env {i : MI} (hL : ty_LW i) {kind most w : Int} {env env' : Int → Int} (h : ∀ v, 0 ≤ v → v < 15 → ty_may kind v → env' v = env v) : ty_says i kind most w env' = ty_says i kind most w env := by
  rw [ty_says_eq, ty_says_eq]
  by_cases hk : ty_fnd i kind = -1
  · rw [if_pos hk, if_pos hk]
  · rw [if_neg hk, if_neg hk, ty_vl_c hL hk h]
theorem ty_vl_b {i : MI} (hL : ty_LW i) {kind : Int} (hk : ¬ ty_fnd i kind = -1) {env : Int → Int} (h : ∀ v, 0 ≤ v → v < 15 → ty_may kind v → -1000000 ≤ env v ∧ env v ≤ 1000000) : -1000000 ≤ ty_vl i (ty_fnd i kind) env ∧ ty_vl i (ty_fnd i kind) env ≤ 1000000 := by
  obtain ⟨q, hq, e1, e2, ht, hb, hc, hkk⟩ := ty_fnd_cl hL hk
  have h10 := ht.1
  unfold ty_vl
  rw [e1, Int.toNat_natCast]
  have := ty_val_b (env := env) (show 0 ≤ ty_fnd i kind ∧ ty_fnd i kind < 10 by omega) hc (ty_eok_of hc (by rw [hkk]; exact h))
  exact ⟨this.1, this.2.1⟩
/-- do the clauses of a kind from a place on say yes -/
def ty_so (i : MI) (q : Nat) (kind : Int) (env : Int → Int) : Nat → Int → Bool
  | 0, _ => false
  | n + 1, k => (decide (i (75 + 5 * q) k = kind) && decide (0 < ty_val i (73 + 5 * q) k env)) || ty_so i q kind env n (k + 1)
/-- the same of the text in force -/
def ty_sov (i : MI) (kind : Int) (env : Int → Int) : Bool := if i 4 8 = -1 then false else ty_so i (i 4 8).toNat kind env (i (73 + 5 * (i 4 8).toNat) 1).toNat 0
theorem ty_so_c {i : MI} {q : Nat} {kind : Int} {env env' : Int → Int} (ht : ty_tx i q) (h : ∀ v, 0 ≤ v → v < 15 → ty_may kind v → env' v = env v) : ∀ (n : Nat) (k : Int), 0 ≤ k → k + n ≤ i 127 q → ty_so i q kind env' n k = ty_so i q kind env n k
  | 0, _, _, _ => rfl
  | n + 1, k, h0, h1 => by
    unfold ty_so
    rw [ty_so_c ht h n (k + 1) (by omega) (by omega)]
    by_cases hk : i (75 + 5 * q) k = kind
    · rw [ty_val_c (ht.2.1 k h0 (by omega)) (by rw [hk]; exact h)]
    · rw [decide_eq_false hk, Bool.false_and, Bool.false_and]
theorem ty_sov_c {i : MI} (hL : ty_LW i) {kind : Int} {env env' : Int → Int} (h : ∀ v, 0 ≤ v → v < 15 → ty_may kind v → env' v = env v) : ty_sov i kind env' = ty_sov i kind env := by
  unfold ty_sov
  by_cases h0 : i 4 8 = -1
  · rw [if_pos h0, if_pos h0]
  · rw [if_neg h0, if_neg h0]
    obtain ⟨h1, h2, h3, h4⟩ := hL
    have ht := h4 (by omega)
    rw [← h1] at ht
    have hc := ht.1
    exact ty_so_c ht h _ 0 (by omega) (by omega)
theorem ty_mm (v m : Int) : (if 0 < (if v < m then v else m) then (if v < m then v else m) else 0) = max 0 (min m v) := by
  by_cases h : v < m
  · rw [if_pos h]
    by_cases h2 : 0 < v
    · rw [if_pos h2]; omega
    · rw [if_neg h2]; omega
  · rw [if_neg h]
    by_cases h2 : 0 < m
    · rw [if_pos h2]; omega
    · rw [if_neg h2]; omega
section TYM
variable {L t : Nat} {r : MR}
theorem ty_clause_n (hr : px_hr r) (d : Nat) (i l : MI) {T : Nat} (ht : px_tx T) (kind : Int) : ∀ (n : Nat) (k : Int), 0 ≤ k → i T 1 = k + n → k + n ≤ 10 → px_X (d + 1) 138 (2, [vR T, vI kind, vI k], []) (px_sh L, i, l, r, t) = some (some (vI (ty_find i T kind n k)), (px_sh L, i, l, r, t))
  | 0, k, h0, h1, h2 => by
    rw [b138_2 hr _ _ _ ht, if_pos (by omega)]
    rfl
  | n + 1, k, h0, h1, h2 => by
    rw [b138_2 hr _ _ _ ht, if_neg (by omega), if_neg (by omega), q33i hr _ _ _ (px_tx_s2 ht) (px_tx_g ht 2) _ (by omega), Option.bind_some, px_psh_some, b138_24 hr _ _ _ ht]
    unfold ty_find
    by_cases h3 : i (T + 2) k = kind
    · rw [if_pos h3, if_pos h3]
    · rw [if_neg h3, if_neg h3, ty_w (by omega), ty_clause_n hr d i l ht kind n (k + 1) (by omega) (by omega) (by omega)]
/-- reckon -/
theorem q71 (hr : px_hr r) (d : Nat) (i l : MI) (kind most w : Int) (hL : ty_LW i) (hm : 0 ≤ most ∧ most ≤ 1000000) (he : ∀ v, 0 ≤ v → v < 15 → ty_may kind v → -1000000 ≤ i 71 v ∧ i 71 v ≤ 1000000) :
    ∃ i1 : MI, px_C (d + 3) 71 [vR 68, vI kind, vI most, vI w] (px_sh L, i, l, r, t) = some (some (vI (ty_says i kind most w (i 71))), (px_sh L, i1, l, r, t)) ∧ ty_ch [72] i i1 := by
  rw [ty_says_eq]
  have hL' := hL
  obtain ⟨h1, h2, h3, h4⟩ := hL'
  by_cases h0 : i 4 8 = -1
  · refine ⟨i, ?_, ty_ch_rf⟩
    have e : ty_fnd i kind = -1 := if_pos h0
    rw [e71, b71_0 hr, e64, b64_0 hr _ _ _ _ (by omega), if_pos (by omega), Option.bind_some, px_psh_some, b71_11_N hr, if_pos e]
    first | rfl | rw [b71_28_i4N hr, if_pos rfl]
  · have ht := h4 (by omega)
    rw [← h1] at ht
    have hc := ht.1
    have htx : px_tx (73 + 5 * (i 4 8).toNat) := px_tx_mk (by omega)
    have e : ty_fnd i kind = ty_find i (73 + 5 * (i 4 8).toNat) kind (i (73 + 5 * (i 4 8).toNat) 1).toNat 0 := if_neg h0
    have hf := ty_clause_n (L := L) (t := t) hr (d + 1) i l htx kind (i (73 + 5 * (i 4 8).toNat) 1).toNat 0 (by omega) (by omega) (by omega)
    rw [← e] at hf
    have hp : px_C (d + 3) 71 [vR 68, vI kind, vI most, vI w] (px_sh L, i, l, r, t) = px_X (d + 3) 71 (28, [vR 68, vI kind, vI most, vI w, vR (73 + 5 * (i 4 8).toNat), vJ], [vI (ty_fnd i kind)]) (px_sh L, i, l, r, t) := by
      rw [e71, b71_0 hr, e64, b64_0 hr _ _ _ _ (by omega), if_neg (by omega), if_neg (by omega), Option.bind_some, px_psh_some, b71_11_t hr _ _ _ _ _ _ htx, e138, b138_0 hr _ _ _ htx, hf, Option.bind_some, px_psh_some]
    by_cases hk : ty_fnd i kind = -1
    · refine ⟨i, ?_, ty_ch_rf⟩
      rw [hp, b71_28_i4t hr _ _ _ _ _ _ htx, if_pos hk, if_pos hk]
    · obtain ⟨q, hq, e1, e2, ht2, hb, hcl, hkk⟩ := ty_fnd_cl hL hk
      have eq : (i 4 8).toNat = q := by omega
      have hc10 := ht2.1
      have hv := ty_vl_b hL hk he
      have hv2 : ty_val i (73 + 5 * q) (ty_fnd i kind) (i 71) = ty_vl i (ty_fnd i kind) (i 71) := by unfold ty_vl; rw [eq]
      obtain ⟨i1, r1, c1⟩ := q72 (L := L) (t := t) hr (T := 73 + 5 * q) (by rw [← eq]; exact htx) (d + 1) i l (ty_fnd i kind) (ty_good_cl (by omega) hcl) (ty_eok_of hcl (by rw [hkk]; exact he))
      refine ⟨i1, ?_, c1⟩
      rw [hp, b71_28_i4t hr _ _ _ _ _ _ htx, if_neg hk, if_neg hk, eq, r1, Option.bind_some, px_psh_some, b71_48 hr _ _ _ _ _ _ (px_nl_R _), hv2, ty_mm]
theorem ty_told_n (hr : px_hr r) (d : Nat) (i l : MI) (q : Nat) (hq : i 124 6 = (q : Int)) (h6 : q < 6) (ht : ty_tx i q) (kind : Int) : ∀ (n : Nat) (x2 k : Int), (x2 = 0 ∨ x2 = 1) → 0 ≤ k → k + n = i 127 q → px_X d 187 (4, [vR 123, vI kind, vI x2, vI k], []) (px_sh L, i, l, r, t) = some (some (vI (if x2 = 1 ∨ ¬ ty_find i (73 + 5 * q) kind n k = -1 then 1 else 0)), (px_sh L, i, l, r, t))
  | 0, x2, k, hx, h0, h1 => by
    have hb := b187_4 (L := L) (t := t) hr d i l kind x2 k
    rw [hq] at hb
    rw [hb (by omega) (by omega) (by omega) (fun _ h => absurd h (by omega)), if_neg (by omega), if_pos (by omega)]
    have e : ty_find i (73 + 5 * q) kind 0 k = -1 := rfl
    rw [e]
    rcases hx with rfl | rfl <;> rfl
  | n + 1, x2, k, hx, h0, h1 => by
    have hc := ht.1
    have hcl := (ht.2.1 k h0 (by omega)).1.2.2
    have w1 : px_w32 (10 * (q : Int)) = 10 * q := ty_w (by omega)
    have w2 : px_w32 (10 * (q : Int) + k) = 10 * q + k := ty_w (by omega)
    have w3 : px_w32 (k + 1) = k + 1 := ty_w (by omega)
    have hb := b187_4 (L := L) (t := t) hr d i l kind x2 k
    rw [hq, w1, w2, w3, hcl] at hb
    have e2 : 73 + 5 * q + 2 = 75 + 5 * q := by omega
    have ef : ty_find i (73 + 5 * q) kind (n + 1) k = if i (75 + 5 * q) k = kind then k else ty_find i (73 + 5 * q) kind n (k + 1) := by
      rw [← e2]
      rfl
    rw [hb (by omega) (by omega) (by omega) (by omega), if_neg (by omega), if_neg (by omega), ef]
    rcases hx with rfl | rfl
    · rw [if_pos rfl]
      by_cases h3 : i (75 + 5 * q) k = kind
      · rw [if_pos h3, if_pos h3, ty_told_n hr d i l q hq h6 ht kind n 1 (k + 1) (by omega) (by omega) (by omega), if_pos (Or.inl rfl), if_pos (Or.inr (by omega))]
      · rw [if_neg h3, if_neg h3, ty_told_n hr d i l q hq h6 ht kind n 0 (k + 1) (by omega) (by omega) (by omega)]
    · rw [if_neg (by omega), ty_told_n hr d i l q hq h6 ht kind n 1 (k + 1) (by omega) (by omega) (by omega), if_pos (Or.inl rfl), if_pos (Or.inl rfl)]
/-- isTold -/
theorem q187 (hr : px_hr r) (d : Nat) (i l : MI) (kind : Int) (hL : ty_LW i) : px_C d 187 [vR 123, vI kind] (px_sh L, i, l, r, t) = some (some (vI (if ty_fnd i kind = -1 then 0 else 1)), (px_sh L, i, l, r, t)) := by
  obtain ⟨h1, h2, h3, h4⟩ := hL
  rw [e187, b187_0 hr]
  by_cases h0 : i 4 8 = -1
  · have e : ty_fnd i kind = -1 := if_pos h0
    rw [b187_4 hr _ _ _ _ _ _ (by omega) (by omega) (by omega) (fun h => absurd (by omega) h), if_pos (by omega), if_pos e]
  · have ht := h4 (by omega)
    have hc := ht.1
    have e : ty_fnd i kind = ty_find i (73 + 5 * (i 4 8).toNat) kind (i (73 + 5 * (i 4 8).toNat) 1).toNat 0 := if_neg h0
    have hT := ty_told_n (L := L) (t := t) hr d i l (i 124 6).toNat (by omega) (by omega) ht kind (i (73 + 5 * (i 124 6).toNat) 1).toNat 0 0 (Or.inl rfl) (by omega) (by omega)
    rw [hT, e, h1]
    by_cases h5 : ty_find i (73 + 5 * (i 124 6).toNat) kind (i (73 + 5 * (i 124 6).toNat) 1).toNat 0 = -1
    · rw [if_pos h5, if_neg (by omega)]
    · rw [if_neg h5, if_pos (Or.inr h5)]
theorem ty_sum_n (hr : px_hr r) (d : Nat) (i : MI) (q : Nat) (hq : i 124 6 = (q : Int)) (h6 : q < 6) (ht : ty_tx i q) (kind w : Int) (hk : 0 ≤ kind ∧ kind < 4) (he : ∀ v, 0 ≤ v → v < 15 → ty_may kind v → -1000000 ≤ i 140 v ∧ i 140 v ≤ 1000000) : ∀ (n : Nat) (l : MI) (x4 k : Int), 0 ≤ k → k + n = i 127 q →
    ∃ l1 : MI, px_X (d + 3) 188 (6, [vR 123, vI kind, vL w, vJ, vL x4, vJ, vI k], []) (px_sh L, i, l, r, t) = some (some (vL (if ty_find i (73 + 5 * q) kind n k = -1 then x4 else ty_val i (73 + 5 * q) (ty_find i (73 + 5 * q) kind n k) (i 140))), (px_sh L, i, l1, r, t)) ∧ ty_ch [141] l l1
  | 0, l, x4, k, h0, h1 => by
    refine ⟨l, ?_, ty_ch_rf⟩
    have hb := b188_6 (L := L) (t := t) hr (d + 2) i l kind w x4 k
    rw [hq] at hb
    rw [hb (by omega) (fun _ h => absurd h (by omega)) (fun _ h => absurd h (by omega)), if_neg (by omega), if_pos (by omega)]
    rfl
  | n + 1, l, x4, k, h0, h1 => by
    have hc := ht.1
    have hcc := ht.2.1 k h0 (by omega)
    have hcl := hcc.1.2.2
    have w1 : px_w32 (10 * (q : Int)) = 10 * q := ty_w (by omega)
    have w2 : px_w32 (10 * (q : Int) + k) = 10 * q + k := ty_w (by omega)
    have w3 : px_w32 (k + 1) = k + 1 := ty_w (by omega)
    have hb := b188_6 (L := L) (t := t) hr (d + 2) i l kind w x4 k
    rw [hq, w1, w2, w3, hcl] at hb
    have e2 : 73 + 5 * q + 2 = 75 + 5 * q := by omega
    have ef : ty_find i (73 + 5 * q) kind (n + 1) k = if i (75 + 5 * q) k = kind then k else ty_find i (73 + 5 * q) kind n (k + 1) := by
      rw [← e2]
      rfl
    have hb := hb (by omega) (by omega) (by omega)
    rw [if_neg (by omega), if_neg (by omega)] at hb
    rw [hb, ef]
    by_cases h3 : i (75 + 5 * q) k = kind
    · obtain ⟨l1, r1, c1⟩ := q185 (L := L) (t := t) hr d i l q h6 k (by omega) hcc (ty_eok_of hcc (by rw [h3]; exact he))
      obtain ⟨l2, r2, c2⟩ := ty_sum_n hr d i q hq h6 ht kind w hk he n l1 (ty_val i (73 + 5 * q) k (i 140)) (k + 1) (by omega) (by omega)
      refine ⟨l2, ?_, ty_ch_tr c1 c2 rfl rfl⟩
      rw [if_pos h3, if_pos h3, if_neg (by omega), r1, Option.bind_some, px_psh_some, b188_78 hr, w3, r2]
      have hn : ty_find i (73 + 5 * q) kind n (k + 1) = -1 := by
        rcases ty_find_spec i (73 + 5 * q) kind n (k + 1) (by omega) with ⟨g1, -⟩ | ⟨g1, g2, g3⟩
        · exact g1
        · rw [e2] at g3
          have := ht.2.2 k _ h0 (by omega) (by omega) (by omega) (h3.trans g3.symm) (by omega)
          omega
      rw [if_pos hn]
    · obtain ⟨l2, r2, c2⟩ := ty_sum_n hr d i q hq h6 ht kind w hk he n l x4 (k + 1) (by omega) (by omega)
      refine ⟨l2, ?_, c2⟩
      rw [if_neg h3, if_neg h3, r2]
/-- sumOf -/
theorem q188 (hr : px_hr r) (d : Nat) (i l : MI) (kind w : Int) (hL : ty_LW i) (hk : 0 ≤ kind ∧ kind < 4) (he : ∀ v, 0 ≤ v → v < 15 → ty_may kind v → -1000000 ≤ i 140 v ∧ i 140 v ≤ 1000000) :
    ∃ l1 : MI, px_C (d + 3) 188 [vR 123, vI kind, vL w] (px_sh L, i, l, r, t) = some (some (vL (if ty_fnd i kind = -1 then w else ty_vl i (ty_fnd i kind) (i 140))), (px_sh L, i, l1, r, t)) ∧ ty_ch [141] l l1 := by
  obtain ⟨h1, h2, h3, h4⟩ := hL
  by_cases h0 : i 4 8 = -1
  · refine ⟨l, ?_, ty_ch_rf⟩
    have e : ty_fnd i kind = -1 := if_pos h0
    rw [e188, b188_0 hr, b188_6 hr _ _ _ _ _ _ _ (by omega) (fun h => absurd (by omega) h) (fun h => absurd (by omega) h), if_pos (by omega), if_pos e]
  · have ht := h4 (by omega)
    have hc := ht.1
    have e : ty_fnd i kind = ty_find i (73 + 5 * (i 4 8).toNat) kind (i (73 + 5 * (i 4 8).toNat) 1).toNat 0 := if_neg h0
    obtain ⟨l1, r1, c1⟩ := ty_sum_n (L := L) (t := t) hr d i (i 124 6).toNat (by omega) (by omega) ht kind w hk he (i (73 + 5 * (i 124 6).toNat) 1).toNat l w 0 (by omega) (by omega)
    refine ⟨l1, ?_, c1⟩
    unfold ty_vl
    rw [e188, b188_0 hr, r1, e, h1]
theorem ty_iso_n (hr : px_hr r) (d : Nat) (i : MI) (q : Nat) (hq : i 124 6 = (q : Int)) (h6 : q < 6) (ht : ty_tx i q) (kind : Int) (he : ∀ v, 0 ≤ v → v < 15 → ty_may kind v → -1000000 ≤ i 140 v ∧ i 140 v ≤ 1000000) : ∀ (n : Nat) (l : MI) (x2 k : Int), (x2 = 0 ∨ x2 = 1) → 0 ≤ k → k + n = i 127 q →
    ∃ l1 : MI, px_X (d + 3) 189 (4, [vR 123, vI kind, vI x2, vI k], []) (px_sh L, i, l, r, t) = some (some (vI (if x2 = 1 ∨ ty_so i q kind (i 140) n k = true then 1 else 0)), (px_sh L, i, l1, r, t)) ∧ ty_ch [141] l l1
  | 0, l, x2, k, hx, h0, h1 => by
    refine ⟨l, ?_, ty_ch_rf⟩
    have hb := b189_4 (L := L) (t := t) hr (d + 2) i l kind x2 k
    rw [hq] at hb
    rw [hb (by omega) (by omega) (by omega) (fun _ h => absurd h (by omega)) (fun _ h => absurd h (by omega)), if_neg (by omega), if_pos (by omega)]
    rcases hx with rfl | rfl <;> rfl
  | n + 1, l, x2, k, hx, h0, h1 => by
    have hc := ht.1
    have hcc := ht.2.1 k h0 (by omega)
    have hcl := hcc.1.2.2
    have w1 : px_w32 (10 * (q : Int)) = 10 * q := ty_w (by omega)
    have w2 : px_w32 (10 * (q : Int) + k) = 10 * q + k := ty_w (by omega)
    have w3 : px_w32 (k + 1) = k + 1 := ty_w (by omega)
    have hb := b189_4 (L := L) (t := t) hr (d + 2) i l kind x2 k
    rw [hq, w1, w2, w3, hcl] at hb
    have hb := hb (by omega) (by omega) (by omega) (by omega) (by omega)
    rw [if_neg (by omega), if_neg (by omega)] at hb
    rw [hb]
    unfold ty_so
    rcases hx with rfl | rfl
    · rw [if_pos rfl]
      by_cases h3 : i (75 + 5 * q) k = kind
      · obtain ⟨l1, r1, c1⟩ := q185 (L := L) (t := t) hr d i l q h6 k (by omega) hcc (ty_eok_of hcc (by rw [h3]; exact he))
        by_cases h4 : 0 < ty_val i (73 + 5 * q) k (i 140)
        · obtain ⟨l2, r2, c2⟩ := ty_iso_n hr d i q hq h6 ht kind he n l1 1 (k + 1) (by omega) (by omega) (by omega)
          refine ⟨l2, ?_, ty_ch_tr c1 c2 rfl rfl⟩
          rw [if_pos h3, r1, Option.bind_some, px_psh_some, b189_77 hr, if_neg (by rw [cmp_le]; omega), w3, r2, if_pos (Or.inl rfl), if_pos (Or.inr (by rw [decide_eq_true h3, decide_eq_true h4]; rfl))]
        · obtain ⟨l2, r2, c2⟩ := ty_iso_n hr d i q hq h6 ht kind he n l1 0 (k + 1) (by omega) (by omega) (by omega)
          refine ⟨l2, ?_, ty_ch_tr c1 c2 rfl rfl⟩
          rw [if_pos h3, r1, Option.bind_some, px_psh_some, b189_77 hr, if_pos (by rw [cmp_le]; omega), w3, r2, decide_eq_false h4, Bool.and_false, Bool.false_or]
      · obtain ⟨l2, r2, c2⟩ := ty_iso_n hr d i q hq h6 ht kind he n l 0 (k + 1) (by omega) (by omega) (by omega)
        refine ⟨l2, ?_, c2⟩
        rw [if_neg h3, r2, decide_eq_false h3, Bool.false_and, Bool.false_or]
    · obtain ⟨l2, r2, c2⟩ := ty_iso_n hr d i q hq h6 ht kind he n l 1 (k + 1) (by omega) (by omega) (by omega)
      refine ⟨l2, ?_, c2⟩
      rw [if_neg (by omega), r2, if_pos (Or.inl rfl), if_pos (Or.inl rfl)]
/-- isSo -/
theorem q189 (hr : px_hr r) (d : Nat) (i l : MI) (kind : Int) (hL : ty_LW i) (he : ∀ v, 0 ≤ v → v < 15 → ty_may kind v → -1000000 ≤ i 140 v ∧ i 140 v ≤ 1000000) :
    ∃ l1 : MI, px_C (d + 3) 189 [vR 123, vI kind] (px_sh L, i, l, r, t) = some (some (vI (if ty_sov i kind (i 140) = true then 1 else 0)), (px_sh L, i, l1, r, t)) ∧ ty_ch [141] l l1 := by
  obtain ⟨h1, h2, h3, h4⟩ := hL
  by_cases h0 : i 4 8 = -1
  · refine ⟨l, ?_, ty_ch_rf⟩
    have e : ty_sov i kind (i 140) = false := if_pos h0
    rw [e189, b189_0 hr, b189_4 hr _ _ _ _ _ _ (by omega) (by omega) (by omega) (fun h => absurd (by omega) h) (fun h => absurd (by omega) h), if_pos (by omega), e]
    rfl
  · have ht := h4 (by omega)
    have hc := ht.1
    have e : ty_sov i kind (i 140) = ty_so i (i 4 8).toNat kind (i 140) (i (73 + 5 * (i 4 8).toNat) 1).toNat 0 := if_neg h0
    obtain ⟨l1, r1, c1⟩ := ty_iso_n (L := L) (t := t) hr d i (i 124 6).toNat (by omega) (by omega) ht kind he (i (73 + 5 * (i 124 6).toNat) 1).toNat l 0 0 (by omega) (by omega) (by omega)
    refine ⟨l1, ?_, c1⟩
    rw [e189, b189_0 hr, r1, e, h1]
    congr 4
    simp
theorem q190 (hr : px_hr r) (d : Nat) (i l : MI) (x m : Int) (hm : 0 ≤ m ∧ m ≤ 1000000) : px_C d 190 [vL x, vI m] (px_sh L, i, l, r, t) = some (some (vI (max 0 (min m x))), (px_sh L, i, l, r, t)) := by
  rw [e190, b190_0 hr]
  simp only [cmp_ge, cmp_le]
  by_cases h1 : 0 ≤ x
  · rw [if_pos h1]
    by_cases h2 : x ≤ m
    · rw [if_pos h2, ty_w (by omega), show max 0 (min m x) = x by omega]
    · rw [if_neg h2, show max 0 (min m x) = m by omega]
  · rw [if_neg h1, show max 0 (min m x) = 0 by omega]
end TYM
