/-! Levels; calls that set nothing that counts. -/
theorem ty_lev_eq (i : MI) (m : Int) : ty_lev i m = ty_says i 0 999 (90 - Int.tdiv (if 0 ≤ Int.tmod m 720 - 360 then Int.tmod m 720 - 360 else 360 - Int.tmod m 720) 4) (fun x => if x = 0 then m else if x = 1 then i 4 3 else i 4 4) := rfl
theorem ty_base_b {m : Int} (h : 0 ≤ m) : 0 ≤ Int.tmod m 720 ∧ Int.tmod m 720 < 720 ∧ 0 ≤ (if 0 ≤ Int.tmod m 720 - 360 then Int.tmod m 720 - 360 else 360 - Int.tmod m 720) ∧ (if 0 ≤ Int.tmod m 720 - 360 then Int.tmod m 720 - 360 else 360 - Int.tmod m 720) ≤ 360 ∧
    0 ≤ Int.tdiv (if 0 ≤ Int.tmod m 720 - 360 then Int.tmod m 720 - 360 else 360 - Int.tmod m 720) 4 ∧ Int.tdiv (if 0 ≤ Int.tmod m 720 - 360 then Int.tmod m 720 - 360 else 360 - Int.tmod m 720) 4 ≤ 90 := by
  have h1 : 0 ≤ Int.tmod m 720 := Int.tmod_nonneg 720 h
  have h2 : Int.tmod m 720 < 720 := Int.tmod_lt_of_pos m (by omega)
  have h3 : 0 ≤ (if 0 ≤ Int.tmod m 720 - 360 then Int.tmod m 720 - 360 else 360 - Int.tmod m 720) ∧ (if 0 ≤ Int.tmod m 720 - 360 then Int.tmod m 720 - 360 else 360 - Int.tmod m 720) ≤ 360 := by
    by_cases h : 0 ≤ Int.tmod m 720 - 360
    · rw [if_pos h]; omega
    · rw [if_neg h]; omega
  refine ⟨h1, h2, h3.1, h3.2, ?_, ?_⟩
  · exact Int.tdiv_nonneg h3.1 (by omega)
  · rw [Int.tdiv_eq_ediv_of_nonneg h3.1]
    omega
theorem ty_lev_b {i : MI} {m : Int} (h : 0 ≤ m) : 0 ≤ ty_lev i m ∧ ty_lev i m ≤ 999 := by
  have hb := ty_base_b h
  rw [ty_lev_eq, ty_says_eq]
  by_cases hk : ty_fnd i 0 = -1
  · rw [if_pos hk]
    omega
  · rw [if_neg hk]
    omega
/-- levels kept are right -/
def ty_lk (i : MI) : Prop := ∀ m : Int, 0 ≤ m → m < 1440 → i 70 m = -1 ∨ i 70 m = ty_lev i m
/-- what laws and seats need of the house -/
def ty_V (i : MI) : Prop := ty_LW i ∧ ty_lk i ∧ (i 4 3 = i 124 1 ∧ -9 ≤ i 124 1 ∧ i 124 1 ≤ 9) ∧ (i 4 4 = i 124 2 ∧ 0 ≤ i 124 2 ∧ i 124 2 ≤ 9)
theorem ty_LW_ch {S : List Nat} {i i' : MI} (h : ty_LW i) (hc : ty_ch S i i') (hS : S.all (fun k => decide (k ≠ 4 ∧ k ≠ 124 ∧ (k < 73 ∨ 103 ≤ k) ∧ (k < 127 ∨ 132 ≤ k))) = true) : ty_LW i' := by
  have hm : ∀ k, k ∈ S → k ≠ 4 ∧ k ≠ 124 ∧ (k < 73 ∨ 103 ≤ k) ∧ (k < 127 ∨ 132 ≤ k) := fun k hk => of_decide_eq_true (List.all_eq_true.mp hS k hk)
  exact ty_LW_c (by rw [hc 4 (fun hk => (hm _ hk).1 rfl)]) (by rw [hc 124 (fun hk => (hm _ hk).2.1 rfl)]) (fun k k0 k1 => hc k (fun hk => by have := hm _ hk; omega)) (fun k k0 k1 => hc k (fun hk => by have := hm _ hk; omega)) h
theorem ty_lev_ch {S : List Nat} {i i' : MI} {m : Int} (hL : ty_LW i) (hc : ty_ch S i i') (hS : S.all (fun k => decide (k ≠ 4 ∧ (k < 73 ∨ 103 ≤ k))) = true) : ty_lev i' m = ty_lev i m := by
  have hm : ∀ k, k ∈ S → k ≠ 4 ∧ (k < 73 ∨ 103 ≤ k) := fun k hk => of_decide_eq_true (List.all_eq_true.mp hS k hk)
  have h4 := hc 4 (fun hk => (hm _ hk).1 rfl)
  have hb1 := hL.1
  have hb2 := hL.2.1
  have hb3 := hL.2.2.1
  exact ty_lev_c (by rw [h4]) (by rw [h4]) (by rw [h4]) (fun k k0 k1 => hc k (fun hk => by have := hm _ hk; omega))
theorem ty_says_ch {S : List Nat} {i i' : MI} {kind most w : Int} {env : Int → Int} (hL : ty_LW i) (hc : ty_ch S i i') (hS : S.all (fun k => decide (k ≠ 4 ∧ (k < 73 ∨ 103 ≤ k))) = true) : ty_says i' kind most w env = ty_says i kind most w env := by
  have hm : ∀ k, k ∈ S → k ≠ 4 ∧ (k < 73 ∨ 103 ≤ k) := fun k hk => of_decide_eq_true (List.all_eq_true.mp hS k hk)
  have h4 := hc 4 (fun hk => (hm _ hk).1 rfl)
  have hb1 := hL.1
  have hb2 := hL.2.1
  have hb3 := hL.2.2.1
  exact ty_says_c (by rw [h4]) (fun k k0 k1 => hc k (fun hk => by have := hm _ hk; omega))
section TYN
variable {L t : Nat} {r : MR}
/-- levelAt -/
theorem q65 (hr : px_hr r) (d : Nat) (i l : MI) (m : Int) (h : ty_V i) (hm : 0 ≤ m ∧ m < 1440) :
    ∃ i1 : MI, px_C (d + 4) 65 [vR 68, vI m] (px_sh L, i, l, r, t) = some (some (vI (ty_lev i m)), (px_sh L, i1, l, r, t)) ∧ ty_ch [70, 71, 72] i i1 ∧ (∀ v, ¬ v = 1 → ¬ v = 2 → i1 71 v = i 71 v) ∧ ty_V i1 := by
  obtain ⟨hL, hk, hw, ho⟩ := h
  have hb := ty_base_b hm.1
  rcases hk m hm.1 hm.2 with h1 | h1
  · have ww1 : px_w32 (Int.tmod m 720 - 360) = Int.tmod m 720 - 360 := ty_w (by omega)
    have ww2 : px_w32 (0 - (Int.tmod m 720 - 360)) = 360 - Int.tmod m 720 := by rw [ty_w (by omega)]; omega
    have ww3 : px_w32 (Int.tdiv (if 0 ≤ Int.tmod m 720 - 360 then Int.tmod m 720 - 360 else 360 - Int.tmod m 720) 4) = Int.tdiv (if 0 ≤ Int.tmod m 720 - 360 then Int.tmod m 720 - 360 else 360 - Int.tmod m 720) 4 := ty_w (by omega)
    have ww4 : px_w32 (90 - Int.tdiv (if 0 ≤ Int.tmod m 720 - 360 then Int.tmod m 720 - 360 else 360 - Int.tmod m 720) 4) = 90 - Int.tdiv (if 0 ≤ Int.tmod m 720 - 360 then Int.tmod m 720 - 360 else 360 - Int.tmod m 720) 4 := ty_w (by omega)
    obtain ⟨j, hj⟩ : ∃ j : MI, j = px_up (px_up (px_up i 71 0 m) 71 1 (i 4 3)) 71 2 (i 4 4) := ⟨_, rfl⟩
    have cj : ty_ch [71] i j := by
      rw [hj]
      exact ty_ch_tr (ty_ch_tr (ty_ch_up (S := [71]) (by decide)) (ty_ch_up (S := [71]) (by decide)) (S'' := [71]) rfl rfl) (ty_ch_up (S := [71]) (by decide)) rfl rfl
    have j0 : j 71 0 = m := by
      rw [hj, ty_up_j (by omega), ty_up_j (by omega), ty_up_eq]
    have j1 : j 71 1 = i 4 3 := by
      rw [hj, ty_up_j (by omega), ty_up_eq]
    have j2 : j 71 2 = i 4 4 := by
      rw [hj, ty_up_eq]
    have jv : ∀ v, ¬ v = 0 → ¬ v = 1 → ¬ v = 2 → j 71 v = i 71 v := fun v v0 v1 v2 => by
      rw [hj, ty_up_j v2, ty_up_j v1, ty_up_j v0]
    have hLj : ty_LW j := ty_LW_ch hL cj rfl
    obtain ⟨i2, r2, c2⟩ := q71 (L := L) (t := t) hr d j l 0 999 (90 - Int.tdiv (if 0 ≤ Int.tmod m 720 - 360 then Int.tmod m 720 - 360 else 360 - Int.tmod m 720) 4) hLj (by omega) (fun v v0 v1 hv => by
      have := hv.1 rfl
      rcases (by omega : v = 0 ∨ v = 1 ∨ v = 2) with rfl | rfl | rfl
      · rw [j0]; omega
      · rw [j1]; omega
      · rw [j2]; omega)
    have el : ty_says j 0 999 (90 - Int.tdiv (if 0 ≤ Int.tmod m 720 - 360 then Int.tmod m 720 - 360 else 360 - Int.tmod m 720) 4) (j 71) = ty_lev i m := by
      rw [ty_lev_eq, ← ty_says_ch hL cj rfl]
      refine ty_says_env hLj (fun v v0 v1 hv => ?_)
      have := hv.1 rfl
      rcases (by omega : v = 0 ∨ v = 1 ∨ v = 2) with rfl | rfl | rfl
      · rw [j0, if_pos rfl]
      · rw [j1, if_neg (by omega), if_pos rfl]
      · rw [j2, if_neg (by omega), if_neg (by omega)]
    obtain ⟨i3, hi3⟩ : ∃ i3 : MI, i3 = px_up (px_up i2 70 m (ty_lev i m)) 71 0 (i 71 0) := ⟨_, rfl⟩
    have c3 : ty_ch [70, 71] i2 i3 := by
      rw [hi3]
      exact ty_ch_tr (ty_ch_up (S := [70]) (by decide)) (ty_ch_up (S := [71]) (by decide)) rfl rfl
    have cc : ty_ch [70, 71, 72] i i3 := ty_ch_tr (ty_ch_tr cj c2 (S'' := [71, 72]) rfl rfl) c3 rfl rfl
    have hL3 : ty_LW i3 := ty_LW_ch hL cc rfl
    have r70 : ∀ x, i3 70 x = if x = m then ty_lev i m else i 70 x := fun x => by
      rw [hi3, ty_up_k (by decide)]
      by_cases hx : x = m
      · rw [if_pos hx, hx, ty_up_eq]
      · rw [if_neg hx, ty_up_j hx, c2 70 (by decide), cj 70 (by decide)]
    refine ⟨i3, ?_, cc, fun v v1 v2 => ?_, hL3, fun x x0 x1 => ?_, ?_, ?_⟩
    · rw [e65, b65_0 hr d.succ.succ.succ i l m (fun _ _ => hm) (fun _ _ _ => hm), if_neg (by omega), if_pos (by omega), if_pos h1, q33i hr _ _ _ (px_s71 L) (Nat.le_of_ble_eq_true rfl) _ (by omega), Option.bind_some, px_psh_some, b65_33 hr, q34i hr _ _ _ (px_s71 L) (Nat.le_of_ble_eq_true rfl) _ _ (by omega), Option.bind_some, px_psh_none, b65_43 hr, ty_up_k (by decide), q34i hr _ _ _ (px_s71 L) (Nat.le_of_ble_eq_true rfl) _ _ (by omega), Option.bind_some, px_psh_none, b65_58 hr, ty_up_k (by decide), ty_up_k (by decide), q34i hr _ _ _ (px_s71 L) (Nat.le_of_ble_eq_true rfl) _ _ (by omega), Option.bind_some, px_psh_none, b65_73 hr, ww1, ww2, ww3, ww4, ← hj, r2, el, Option.bind_some, px_psh_some, b65_105 hr _ _ _ _ _ _ _ _ hm, q34i hr _ _ _ (px_s71 L) (Nat.le_of_ble_eq_true rfl) _ _ (by omega), Option.bind_some, px_psh_none, b65_115 hr _ _ _ _ _ _ hm, ← hi3, r70, if_pos rfl]
    · rw [hi3]
      by_cases hv : v = 0
      · rw [hv, ty_up_eq]
      · rw [ty_up_j hv, ty_up_k (by decide), c2 71 (by decide), jv v hv v1 v2]
    · rw [r70, ty_lev_ch hL cc rfl]
      by_cases hx : x = m
      · rw [if_pos hx, hx]
        exact Or.inr rfl
      · rw [if_neg hx]
        exact hk x x0 x1
    · rw [cc 4 (by decide), cc 124 (by decide)]
      exact hw
    · rw [cc 4 (by decide), cc 124 (by decide)]
      exact ho
  · have hl := ty_lev_b (i := i) hm.1
    refine ⟨i, ?_, ty_ch_rf, fun _ _ _ => rfl, hL, hk, hw, ho⟩
    rw [e65, b65_0 hr d.succ.succ.succ i l m (fun _ _ => hm) (fun _ _ _ => hm), if_neg (by omega), if_pos (by omega), if_neg (by omega), h1]
/-- levelOf -/
theorem q192 (hr : px_hr r) (d : Nat) (i l : MI) (m : Int) (h : ty_V i) (hm : 0 ≤ m ∧ m < 1440) :
    ∃ i1 l1 : MI, px_C (d + 4) 192 [vR 123, vI m] (px_sh L, i, l, r, t) = some (some (vI (ty_lev i m)), (px_sh L, i1, l1, r, t)) ∧ ty_ch [140] i i1 ∧ ty_ch [141] l l1 ∧ (∀ v, ¬ v = 0 → ¬ v = 1 → ¬ v = 2 → i1 140 v = i 140 v) ∧ ty_V i1 := by
  obtain ⟨hL, hk, hw, ho⟩ := h
  have hb := ty_base_b hm.1
  rw [e192, b192_0 hr, q187 hr _ _ _ _ hL, Option.bind_some, px_psh_some, b192_5 hr, ty_lev_eq, ty_says_eq]
  by_cases h1 : ty_fnd i 0 = -1
  · have ww1 : px_w32 (Int.tmod m 720 - 360) = Int.tmod m 720 - 360 := ty_w (by omega)
    have hq : px_C (d + 3) 191 [vI (Int.tmod m 720 - 360)] (px_sh L, i, l, r, t) = some (some (vI (if 0 ≤ Int.tmod m 720 - 360 then Int.tmod m 720 - 360 else 360 - Int.tmod m 720)), (px_sh L, i, l, r, t)) := by
      rw [e191, b191_0 hr]
      by_cases h2 : 0 ≤ Int.tmod m 720 - 360
      · rw [if_pos h2, if_pos h2]
      · have wn : px_w32 (-(Int.tmod m 720 - 360)) = 360 - Int.tmod m 720 := by rw [ty_w (by omega)]; omega
        rw [if_neg h2, if_neg h2, wn]
    refine ⟨i, l, ?_, ty_ch_rf, ty_ch_rf, fun _ _ _ _ => rfl, hL, hk, hw, ho⟩
    rw [if_pos h1, if_pos h1, if_pos rfl, ww1, hq, Option.bind_some, px_psh_some, b192_22 hr, ty_w (x := Int.tdiv _ _) (by omega), ty_w (by omega)]
  · obtain ⟨j, hj⟩ : ∃ j : MI, j = px_up (px_up (px_up i 140 0 m) 140 1 (i 124 1)) 140 2 (i 124 2) := ⟨_, rfl⟩
    have cj : ty_ch [140] i j := by
      rw [hj]
      exact ty_ch_tr (ty_ch_tr (ty_ch_up (S := [140]) (by decide)) (ty_ch_up (S := [140]) (by decide)) (S'' := [140]) rfl rfl) (ty_ch_up (S := [140]) (by decide)) rfl rfl
    have j0 : j 140 0 = m := by
      rw [hj, ty_up_j (by omega), ty_up_j (by omega), ty_up_eq]
    have j1 : j 140 1 = i 4 3 := by
      rw [hj, ty_up_j (by omega), ty_up_eq, hw.1]
    have j2 : j 140 2 = i 4 4 := by
      rw [hj, ty_up_eq, ho.1]
    have jv : ∀ v, ¬ v = 0 → ¬ v = 1 → ¬ v = 2 → j 140 v = i 140 v := fun v v0 v1 v2 => by
      rw [hj, ty_up_j v2, ty_up_j v1, ty_up_j v0]
    have hLj : ty_LW j := ty_LW_ch hL cj rfl
    have he : ∀ v, 0 ≤ v → v < 15 → ty_may 0 v → -1000000 ≤ j 140 v ∧ j 140 v ≤ 1000000 := fun v v0 v1 hv => by
      have := hv.1 rfl
      rcases (by omega : v = 0 ∨ v = 1 ∨ v = 2) with rfl | rfl | rfl
      · rw [j0]; omega
      · rw [j1]; omega
      · rw [j2]; omega
    obtain ⟨l2, r2, c2⟩ := q188 (L := L) (t := t) hr d j l 0 0 hLj (by omega) he
    have ef : ty_fnd j 0 = ty_fnd i 0 := by
      have hb1 := hL.1
      have hb2 := hL.2.1
      have hb3 := hL.2.2.1
      unfold ty_fnd
      by_cases h8 : i 4 8 = -1
      · rw [if_pos h8, if_pos (by rw [cj 4 (by decide)]; exact h8)]
      · rw [if_neg h8, if_neg (by rw [cj 4 (by decide)]; exact h8), cj 4 (by decide), cj (73 + 5 * (i 4 8).toNat) (by simp only [List.mem_singleton]; omega), ty_find_c (cj (73 + 5 * (i 4 8).toNat + 2) (by simp only [List.mem_singleton]; omega))]
    have hbv := ty_vl_b hLj (by rw [ef]; exact h1) he
    have ev : ty_vl j (ty_fnd j 0) (j 140) = ty_vl i (ty_fnd i 0) (fun x => if x = 0 then m else if x = 1 then i 4 3 else i 4 4) := by
      have hb1 := hL.1
      have hb2 := hL.2.1
      have hb3 := hL.2.2.1
      rw [ty_vl_c hLj (by rw [ef]; exact h1) (env := fun x => if x = 0 then m else if x = 1 then i 4 3 else i 4 4) (fun v v0 v1 hv => ?_), ef]
      · unfold ty_vl ty_val
        rw [cj 4 (by decide), ty_codes_c (cj _ (by simp only [List.mem_singleton]; omega)) (cj _ (by simp only [List.mem_singleton]; omega)) (cj _ (by simp only [List.mem_singleton]; omega))]
      · have := hv.1 rfl
        rcases (by omega : v = 0 ∨ v = 1 ∨ v = 2) with rfl | rfl | rfl
        · rw [j0]; rfl
        · rw [j1]; rfl
        · rw [j2]; rfl
    refine ⟨j, l2, ?_, cj, c2, jv, hLj, fun x x0 x1 => ?_, ?_, ?_⟩
    · rw [if_neg h1, if_neg h1, if_neg (by omega), ← hj, r2, if_neg (by rw [ef]; exact h1), ev, Option.bind_some, px_psh_some, b192_63 hr, q190 hr _ _ _ _ _ (by omega), Option.bind_some, px_psh_some, b192_69 hr]
    · rw [cj 70 (by decide), ty_lev_ch hL cj rfl]
      exact hk x x0 x1
    · rw [cj 4 (by decide), cj 124 (by decide)]
      exact hw
    · rw [cj 4 (by decide), cj 124 (by decide)]
      exact ho
end TYN
/-- what counts is the same -/
def ty_same (i i' : MI) : Prop := (∀ k, (k < 58 ∨ k = 64 ∨ (73 ≤ k ∧ k < 103) ∨ (124 ≤ k ∧ k < 132)) → i' k = i k) ∧ (∀ j : Int, 1 ≤ j → j ≤ 4 → i' 58 j = i 58 j) ∧ (∀ j : Int, (j = 0 ∨ j = 1 ∨ j = 2 ∨ j = 6 ∨ j = 7 ∨ j = 8) → i' 123 j = i 123 j)
theorem ty_same_ch {S : List Nat} {i i' : MI} (hc : ty_ch S i i') (hS : S.all (fun k => decide (58 < k ∧ k ≠ 64 ∧ k ≠ 123 ∧ (k < 73 ∨ 103 ≤ k) ∧ (k < 124 ∨ 132 ≤ k))) = true) : ty_same i i' := by
  have hm : ∀ k, k ∈ S → 58 < k ∧ k ≠ 64 ∧ k ≠ 123 ∧ (k < 73 ∨ 103 ≤ k) ∧ (k < 124 ∨ 132 ≤ k) := fun k hk => of_decide_eq_true (List.all_eq_true.mp hS k hk)
  exact ⟨fun k h => hc k (fun hk => by have := hm _ hk; omega), fun j _ _ => by rw [hc 58 (fun hk => by have := hm _ hk; omega)], fun j _ => by rw [hc 123 (fun hk => by have := hm _ hk; omega)]⟩
theorem ty_same_tr {i i' i'' : MI} (h : ty_same i i') (h' : ty_same i' i'') : ty_same i i'' := ⟨fun k hk => (h'.1 k hk).trans (h.1 k hk), fun j j0 j1 => (h'.2.1 j j0 j1).trans (h.2.1 j j0 j1), fun j hj => (h'.2.2 j hj).trans (h.2.2 j hj)⟩
theorem ty_V_CR {n : Nat} {i l : MI} (h : ty_CR n i l) : ty_V i := by
  obtain ⟨hD, h0, h27, hT, hY⟩ := h
  obtain ⟨hb, hs, hp, hg, ho, hh, hl, hnn⟩ := h0
  obtain ⟨s1, s2, s3, s4, s5, s6, s7, s8⟩ := hs
  have e8 : i 4 8 = i 124 6 := s6.1
  refine ⟨⟨e8, s6.2.1, by omega, fun hn => hY.1 _ (by omega)⟩, fun m m0 m1 => hY.2.2.1 m m0 m1, s1, s2⟩
theorem ty_CR_same {n : Nat} {i i' l l' : MI} (h : ty_CR n i l) (hs : ty_same i i') (h19 : l' 19 = l 19) (h46 : l' 46 = l 46) (hk : ty_lk i') (hst : 0 ≤ i' 103 7 ∧ i' 103 7 ≤ i 103 7 + 1500) (hsp : ∀ x : Int, 0 ≤ x → x < 320 → i' 108 x ≤ i' 103 7) : ty_CR (n + 1) i' l' := by
  have h' := h
  obtain ⟨hD, h0, h27, hT, hY⟩ := h
  have hdim := ty_D_2 hD
  obtain ⟨hS, h58, h123⟩ := hs
  obtain ⟨y1, y2, y3, y4, y5⟩ := hY
  have b5 := h0.2.1.2.2.2.2.1
  have r : ∀ k, k < 58 → i' k = i k := fun k hk => hS k (Or.inl hk)
  have r124 : i' 124 = i 124 := hS 124 (by omega)
  have r125 : i' 125 = i 125 := hS 125 (by omega)
  refine ⟨ty_D_c (i := i) (l := l) (h123 _ (by omega)) (h123 _ (by omega)) (h123 _ (by omega)) (by rw [r 19 (by omega)]) (by rw [r 19 (by omega)]) (by rw [r 19 (by omega)]) (by rw [h19]) (by rw [h19]) (by rw [h19]) (ty_gs_fr (fun k _ k1 => r k k1)) hD,
    ty_H_same 0 124 (i := i) (l := l) (fun k k0 k1 => r k (by omega)) r124 (h123 _ (by omega)) h19 (by omega) h0,
    ty_H_same 27 125 (i := i) (l := l) (fun k k0 k1 => r k (by omega)) r125 (h123 _ (by omega)) h46 (by omega) h27,
    ty_T_c (h58 _ (by omega) (by omega)) (h58 _ (by omega) (by omega)) (h58 _ (by omega) (by omega)) (h58 _ (by omega) (by omega)) (h123 _ (by omega)) (h123 _ (by omega)) (h123 _ (by omega)) (hS 64 (by omega)) (hS 126 (by omega)) hT,
    fun q hq => ?_, by rw [r124, r125]; exact y2, hk, ⟨hst.1, by omega⟩, hsp⟩
  rw [r124] at hq
  exact ty_tx_c (fun k k0 k1 => hS k (by omega)) (hS _ (by omega)) (hS _ (by omega)) (hS _ (by omega)) (hS _ (by omega)) (hS _ (by omega)) (y1 q hq)
/-- level -/
theorem ok_level (a : Int) : ty_ok ty_CR 12 193 [vI a] := by
  intro L t r hr n d i l hn hc
  have hc' := ty_CR_mono hc
  have hY := hc.2.2.2.2
  show ∃ (v : Int) (i1 l1 i2 l2 : MI), px_C (d + 35 + 4 + 1) 12 [vR 3, vI a] _ = _ ∧ px_C (d + 35 + 4 + 1) 193 [vR 123, vI a] _ = _ ∧ _
  by_cases ha : 0 ≤ a ∧ a ≤ 1439
  · obtain ⟨i1, r1, c1, -, v1⟩ := q65 (L := L) (t := t) hr (d + 35) i l a (ty_V_CR hc) (by omega)
    obtain ⟨i2, l2, r2, c2, c2l, -, v2⟩ := q192 (L := L) (t := t) hr (d + 35) i1 l a v1 (by omega)
    have cc : ty_ch [70, 71, 72, 140] i i2 := ty_ch_tr c1 c2 rfl rfl
    refine ⟨ty_lev i a, i1, l, i2, l2, ?_, ?_, ty_CR_same hc (ty_same_ch cc rfl) (c2l 19 (by decide)) (c2l 46 (by decide)) v2.2.1 ?_ (fun x x0 x1 => ?_), c1 0 (by decide), cc 0 (by decide)⟩
    · rw [e12, b12_0 hr, q31 hr, Option.bind_some, px_psh_some, b12_4 hr, px_bi_T ha, if_neg (by omega), r1, Option.bind_some, px_psh_some, b12_15 hr]
    · rw [e193, b193_0 hr, q145 hr, Option.bind_some, px_psh_some, b193_4 hr, px_bi_T ha, if_neg (by omega), r2, Option.bind_some, px_psh_some, b193_12 hr, ty_lev_ch (ty_V_CR hc).1 c1 rfl]
    · rw [cc 103 (by decide)]
      have := hY.2.2.2.1
      omega
    · rw [cc 103 (by decide), cc 108 (by decide)]
      exact hY.2.2.2.2 x x0 x1
  · refine ⟨-1, i, l, i, l, ?_, ?_, hc', rfl, rfl⟩
    · rw [e12, b12_0 hr, q31 hr, Option.bind_some, px_psh_some, b12_4 hr, px_bi_F ha, if_pos rfl]
    · rw [e193, b193_0 hr, q145 hr, Option.bind_some, px_psh_some, b193_4 hr, px_bi_F ha, if_pos rfl]
