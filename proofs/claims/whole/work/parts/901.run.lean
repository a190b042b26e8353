/-! What signs come to: the class's run (72, 73). -/
theorem cmp_le {x y : Int} : (px_cmp x y ≤ 0) = (x ≤ y) := by
  apply propext
  unfold px_cmp
  by_cases h : x < y
  · rw [if_pos h]; omega
  · rw [if_neg h]
    by_cases h2 : x = y
    · rw [if_pos h2]; omega
    · rw [if_neg h2]; omega
theorem cmp_ge {x y : Int} : (0 ≤ px_cmp x y) = (y ≤ x) := by
  apply propext
  unfold px_cmp
  by_cases h : x < y
  · rw [if_pos h]; omega
  · rw [if_neg h]
    by_cases h2 : x = y
    · rw [if_pos h2]; omega
    · rw [if_neg h2]; omega
theorem cmp_eq {x y : Int} : (px_cmp x y = 0) = (x = y) := by
  apply propext
  unfold px_cmp
  by_cases h : x < y
  · rw [if_pos h]; omega
  · rw [if_neg h]
    by_cases h2 : x = y
    · rw [if_pos h2]; omega
    · rw [if_neg h2]; omega
theorem cmp_lt {x y : Int} : (px_cmp x y < 0) = (x < y) := by
  apply propext
  unfold px_cmp
  by_cases h : x < y
  · rw [if_pos h]; omega
  · rw [if_neg h]
    by_cases h2 : x = y
    · rw [if_pos h2]; omega
    · rw [if_neg h2]; omega
theorem cmp_gt {x y : Int} : (0 < px_cmp x y) = (y < x) := by
  apply propext
  unfold px_cmp
  by_cases h : x < y
  · rw [if_pos h]; omega
  · rw [if_neg h]
    by_cases h2 : x = y
    · rw [if_pos h2]; omega
    · rw [if_neg h2]; omega
theorem ty_w6 {x : Int} (h : -9223372036854775808 ≤ x ∧ x < 9223372036854775808) : px_w64 x = x := by
  exact px_w64_id h
theorem ty_mul_b {a b : Int} (ha : -1000000 ≤ a ∧ a ≤ 1000000) (hb : -1000000 ≤ b ∧ b ≤ 1000000) : -1000000000000 ≤ a * b ∧ a * b ≤ 1000000000000 := by
  have h1 : (a * b).natAbs = a.natAbs * b.natAbs := Int.natAbs_mul a b
  have h2 : a.natAbs * b.natAbs ≤ 1000000 * 1000000 := Nat.mul_le_mul (by omega) (by omega)
  omega
theorem ty_mil_eq (x : Int) : px_w32 (if (if 1000000 < x then 1000000 else x) < (-1000000) then (-1000000) else (if 1000000 < x then 1000000 else x)) = ty_mil x := by
  unfold ty_mil
  by_cases h : 1000000 < x
  · rw [if_pos h, if_pos h, if_neg (by omega), ty_w (by omega)]
  · rw [if_neg h, if_neg h]
    by_cases h2 : x < -1000000
    · rw [if_pos h2, ty_w (by omega)]
    · rw [if_neg h2, ty_w (by omega)]
theorem ty_mil_id {x : Int} (h : -1000000 ≤ x ∧ x ≤ 1000000) : ty_mil x = x := by
  unfold ty_mil
  rw [if_neg (by omega), if_neg (by omega)]
theorem ty_j0 (a b : Int) : ty_join 10010 a b = ty_mil (a + b) := by
  unfold ty_join
  rw [if_pos rfl]
theorem ty_j1 (a b : Int) : ty_join 10011 a b = ty_mil (a - b) := by
  unfold ty_join
  rw [if_neg (by omega), if_pos rfl]
theorem ty_j2 (a b : Int) : ty_join 10012 a b = ty_mil (a * b) := by
  unfold ty_join
  rw [if_neg (by omega), if_neg (by omega), if_pos rfl]
theorem ty_j3 (a b : Int) : ty_join 10013 a b = (if b = 0 then 0 else Int.tdiv a b) := by
  unfold ty_join
  rw [if_neg (by omega), if_neg (by omega), if_neg (by omega), if_pos rfl]
theorem ty_j4 (a b : Int) : ty_join 10014 a b = (if a < b then 1 else 0) := by
  unfold ty_join
  rw [if_neg (by omega), if_neg (by omega), if_neg (by omega), if_neg (by omega), if_pos rfl]
theorem ty_j5 (a b : Int) : ty_join 10015 a b = (if a ≤ b then 1 else 0) := by
  unfold ty_join
  rw [if_neg (by omega), if_neg (by omega), if_neg (by omega), if_neg (by omega), if_neg (by omega), if_pos rfl]
theorem ty_j6 (a b : Int) : ty_join 10016 a b = (if b < a then 1 else 0) := by
  unfold ty_join
  rw [if_neg (by omega), if_neg (by omega), if_neg (by omega), if_neg (by omega), if_neg (by omega), if_neg (by omega), if_pos rfl]
theorem ty_j7 (a b : Int) : ty_join 10017 a b = (if b ≤ a then 1 else 0) := by
  unfold ty_join
  rw [if_neg (by omega), if_neg (by omega), if_neg (by omega), if_neg (by omega), if_neg (by omega), if_neg (by omega), if_neg (by omega), if_pos rfl]
theorem ty_j8 (a b : Int) : ty_join 10018 a b = (if a = b then 1 else 0) := by
  unfold ty_join
  rw [if_neg (by omega), if_neg (by omega), if_neg (by omega), if_neg (by omega), if_neg (by omega), if_neg (by omega), if_neg (by omega), if_neg (by omega), if_pos rfl]
theorem ty_j9 (a b : Int) : ty_join 10019 a b = (if a = b then 0 else 1) := by
  unfold ty_join
  rw [if_neg (by omega), if_neg (by omega), if_neg (by omega), if_neg (by omega), if_neg (by omega), if_neg (by omega), if_neg (by omega), if_neg (by omega), if_neg (by omega), if_pos rfl]
theorem ty_j30 (a b : Int) : ty_join 10030 a b = (if a = 1 ∨ b = 1 then 1 else 0) := by
  unfold ty_join
  rw [if_neg (by omega), if_neg (by omega), if_neg (by omega), if_neg (by omega), if_neg (by omega), if_neg (by omega), if_neg (by omega), if_neg (by omega), if_neg (by omega), if_neg (by omega), if_pos rfl]
theorem ty_j31 (a b : Int) : ty_join 10031 a b = (if a = 1 ∧ b = 1 then 1 else 0) := by
  unfold ty_join
  rw [if_neg (by omega), if_neg (by omega), if_neg (by omega), if_neg (by omega), if_neg (by omega), if_neg (by omega), if_neg (by omega), if_neg (by omega), if_neg (by omega), if_neg (by omega), if_neg (by omega)]
theorem ty_or01 {a b : Int} (ha : a = 0 ∨ a = 1) (hb : b = 0 ∨ b = 1) : px_or a b = (if a = 1 ∨ b = 1 then 1 else 0) := by
  rcases ha with rfl | rfl <;> rcases hb with rfl | rfl <;> decide
theorem ty_and01 {a b : Int} (ha : a = 0 ∨ a = 1) (hb : b = 0 ∨ b = 1) : px_and a b = (if a = 1 ∧ b = 1 then 1 else 0) := by
  rcases ha with rfl | rfl <;> rcases hb with rfl | rfl <;> decide
section TYR
variable {L t : Nat} {r : MR}
theorem q73 (hr : px_hr r) (d : Nat) (i l : MI) (c a b : Int) (ha : -1000000 ≤ a ∧ a ≤ 1000000) (hb : -1000000 ≤ b ∧ b ≤ 1000000) (hc : (10010 ≤ c ∧ c ≤ 10019) ∨ ((c = 10030 ∨ c = 10031) ∧ (a = 0 ∨ a = 1) ∧ (b = 0 ∨ b = 1))) : px_C d 73 [vI (c - 10000), vI a, vI b] (px_sh L, i, l, r, t) = some (some (vI (ty_join c a b)), (px_sh L, i, l, r, t)) := by
  have hm := ty_mul_b ha hb
  rw [e73, b73_0 hr d i l (c - 10000) a b (fun _ _ _ _ h => h)]
  rcases hc with hc | ⟨hc, h1, h2⟩
  · rcases (by omega : c = 10010 ∨ c = 10011 ∨ c = 10012 ∨ c = 10013 ∨ c = 10014 ∨ c = 10015 ∨ c = 10016 ∨ c = 10017 ∨ c = 10018 ∨ c = 10019) with rfl | rfl | rfl | rfl | rfl | rfl | rfl | rfl | rfl | rfl
    · rw [if_pos (by omega), ty_j0]
      rw [b73_224 hr, ty_w6 (by omega), ty_mil_eq]
    · rw [if_neg (by omega), if_pos (by omega), ty_j1]
      rw [b73_224 hr, ty_w6 (by omega), ty_mil_eq]
    · rw [if_neg (by omega), if_neg (by omega), if_pos (by omega), ty_j2]
      rw [b73_224 hr, ty_w6 (by omega), ty_mil_eq]
    · rw [if_neg (by omega), if_neg (by omega), if_neg (by omega), if_pos (by omega), ty_j3]
      by_cases h0 : b = 0
      · rw [if_pos h0, b73_144 hr, b73_224 hr, ty_mil_eq, if_pos h0, ty_mil_id (by omega)]
      · have hd := ty_tdiv_b b ha
        rw [if_neg h0, b73_144 hr, b73_224 hr, ty_mil_eq, ty_w6 (by omega), ty_mil_id hd, if_neg h0]
    · rw [if_neg (by omega), if_neg (by omega), if_neg (by omega), if_neg (by omega), if_pos (by omega), ty_j4]
      by_cases h0 : b ≤ a
      · rw [if_pos h0, if_neg (by omega)]
      · rw [if_neg h0, if_pos (by omega)]
    · rw [if_neg (by omega), if_neg (by omega), if_neg (by omega), if_neg (by omega), if_neg (by omega), if_pos (by omega), ty_j5]
      by_cases h0 : b < a
      · rw [if_pos h0, if_neg (by omega)]
      · rw [if_neg h0, if_pos (by omega)]
    · rw [if_neg (by omega), if_neg (by omega), if_neg (by omega), if_neg (by omega), if_neg (by omega), if_neg (by omega), if_pos (by omega), ty_j6]
      by_cases h0 : a ≤ b
      · rw [if_pos h0, if_neg (by omega)]
      · rw [if_neg h0, if_pos (by omega)]
    · rw [if_neg (by omega), if_neg (by omega), if_neg (by omega), if_neg (by omega), if_neg (by omega), if_neg (by omega), if_neg (by omega), if_pos (by omega), ty_j7]
      by_cases h0 : a < b
      · rw [if_pos h0, if_neg (by omega)]
      · rw [if_neg h0, if_pos (by omega)]
    · rw [if_neg (by omega), if_neg (by omega), if_neg (by omega), if_neg (by omega), if_neg (by omega), if_neg (by omega), if_neg (by omega), if_neg (by omega), if_pos (by omega), ty_j8]
      by_cases h0 : a = b
      · rw [if_pos h0, if_pos h0]
      · rw [if_neg h0, if_neg h0]
    · rw [if_neg (by omega), if_neg (by omega), if_neg (by omega), if_neg (by omega), if_neg (by omega), if_neg (by omega), if_neg (by omega), if_neg (by omega), if_neg (by omega), if_pos (by omega), ty_j9]
      by_cases h0 : a = b
      · rw [if_pos h0, if_pos h0]
      · rw [if_neg h0, if_neg h0]
  · rcases hc with rfl | rfl
    · rw [if_neg (by omega), if_neg (by omega), if_neg (by omega), if_neg (by omega), if_neg (by omega), if_neg (by omega), if_neg (by omega), if_neg (by omega), if_neg (by omega), if_neg (by omega), if_neg (by omega), if_neg (by omega), if_neg (by omega), if_neg (by omega), if_neg (by omega), if_neg (by omega), if_neg (by omega), if_neg (by omega), if_neg (by omega), if_neg (by omega), if_pos (by omega), ty_j30, ty_or01 h1 h2]
    · rw [if_neg (by omega), if_neg (by omega), if_neg (by omega), if_neg (by omega), if_neg (by omega), if_neg (by omega), if_neg (by omega), if_neg (by omega), if_neg (by omega), if_neg (by omega), if_neg (by omega), if_neg (by omega), if_neg (by omega), if_neg (by omega), if_neg (by omega), if_neg (by omega), if_neg (by omega), if_neg (by omega), if_neg (by omega), if_neg (by omega), if_neg (by omega), if_pos (by omega), ty_j31, ty_and01 h1 h2]
/-- one sign -/
theorem ty_run_1 (hr : px_hr r) {T : Nat} (ht : px_tx T) (d : Nat) (i l : MI) (c : Int) (st : List Int) (ts ts' : List Bool) (x2 x4 x5 : Int) (v6 v7 : PV) (hn6 : px_nl v6) (hn7 : px_nl v7) (hs : ty_sgn c) (hc : i (T + 1) x5 = c) (hf : ty_fit st ts) (hst : ty_stk (i 72) st) (h : ty_step c ts = some ts') (h32 : st.length ≤ 32) (h5 : 0 ≤ x5) (h45 : x5 < x4) (h4 : x4 ≤ 300) :
    ∃ (i1 : MI) (v6' v7' : PV), px_X (d + 1) 72 (34, [vR 68, vR T, vI x2, vI (st.length : Int), vI x4, vI x5, v6, v7], []) (px_sh L, i, l, r, t) = px_X (d + 1) 72 (34, [vR 68, vR T, vI x2, vI ((ty_act (i 71) c st).length : Int), vI x4, vI (x5 + 1), v6', v7'], []) (px_sh L, i1, l, r, t) ∧
      px_nl v6' ∧ px_nl v7' ∧ ty_ch [72] i i1 ∧ ty_stk (i1 72) (ty_act (i 71) c st) ∧ (ty_act (i 71) c st).length ≤ 32 := by
  have hb := b72_R68t_34 (L := L) (t := t) hr d i l ht x2 (st.length : Int) x4 x5 hn6 hn7 (fun _ => by omega)
  have hs' := hs
  have hlen := ty_fit_len hf
  unfold ty_sgn at hs'
  have w1 : px_w32 (c - 10000) = c - 10000 := ty_w (by omega)
  have w5 : px_w32 (x5 + 1) = x5 + 1 := ty_w (by omega)
  rw [hc, w1, if_neg (by omega)] at hb
  have up : ∀ (n : Nat) (xs : List Int) (v : Int), xs.length = n → ty_stk (i 72) xs → ty_stk (px_up i 72 (n : Int) v 72) (v :: xs) := fun n xs v hn hx => ty_stk_up hx (by rw [hn]; exact ty_up_eq) (fun j j0 j1 => ty_up_j (by omega))
  rcases ty_step_inv hs h with ⟨h1, h2, rfl⟩ | ⟨rfl, q, rfl, rfl⟩ | ⟨rfl, q, rfl, rfl⟩ | ⟨h1, q, rfl, rfl⟩ | ⟨h1, q, rfl, rfl⟩ | ⟨h1, q, rfl, rfl⟩
  · rcases h1 with h1 | h1
    · have e : ty_act (i 71) c st = c :: st := if_pos h1
      rw [e]
      refine ⟨px_up i 72 (st.length : Int) c, vI c, vI (c - 10000), ?_, px_nl_I _, px_nl_I _, ty_ch_up (List.mem_singleton.mpr rfl), up _ _ _ rfl hst, by rw [List.length_cons]; omega⟩
      rw [hb, if_neg (by omega), q34i hr _ _ _ (px_s72 L) (Nat.le_of_ble_eq_true rfl) _ _ (by omega), Option.bind_some, px_psh_none, b72_R68t_73 hr _ _ _ ht, w5, ty_w (by omega), List.length_cons, Int.natCast_add]
      rfl
    · have e : ty_act (i 71) c st = i 71 (c - 10033) :: st := by
        unfold ty_act
        rw [if_neg (by omega), if_pos h1]
      have w2 : px_w32 (c - 10000 - 33) = c - 10033 := by rw [ty_w (by omega)]; omega
      rw [e]
      refine ⟨px_up i 72 (st.length : Int) (i 71 (c - 10033)), vI c, vI (c - 10000), ?_, px_nl_I _, px_nl_I _, ty_ch_up (List.mem_singleton.mpr rfl), up _ _ _ rfl hst, by rw [List.length_cons]; omega⟩
      rw [hb, if_pos (by omega), if_neg (by omega), w2, q33i hr _ _ _ (px_s71 L) (Nat.le_of_ble_eq_true rfl) _ (by omega), Option.bind_some, px_psh_some, b72_R68t_103 hr _ _ _ ht, q34i hr _ _ _ (px_s72 L) (Nat.le_of_ble_eq_true rfl) _ _ (by omega), Option.bind_some, px_psh_none, b72_R68t_106 hr _ _ _ ht, w5, ty_w (by omega), List.length_cons, Int.natCast_add]
      rfl
  · obtain ⟨x, xs, rfl, g1, g2⟩ := ty_fit_1 hf
    have hx := hst.1
    rw [List.length_cons, Int.natCast_add] at hb
    rw [List.length_cons] at h32
    have w2 : px_w32 ((xs.length : Int) + (1 : Nat) - 1) = (xs.length : Int) := by rw [ty_w (by omega)]; omega
    have w3 : px_w32 (-x) = -x := ty_w (by omega)
    refine ⟨px_up i 72 (xs.length : Int) (-x), vI 10020, vI (10020 - 10000), ?_, px_nl_I _, px_nl_I _, ty_ch_up (List.mem_singleton.mpr rfl), up _ _ _ rfl hst.2, h32⟩
    rw [List.length_cons, Int.natCast_add, hb, if_pos (by omega), if_pos (by omega), if_pos (by omega), w2, q33i hr _ _ _ (px_s72 L) (Nat.le_of_ble_eq_true rfl) _ (by omega), Option.bind_some, px_psh_some, b72_R68t_136 hr _ _ _ ht, hx, w3, q34i hr _ _ _ (px_s72 L) (Nat.le_of_ble_eq_true rfl) _ _ (by omega), Option.bind_some, px_psh_none, b72_R68t_140 hr _ _ _ ht, w5]
    rfl
  · obtain ⟨x, xs, rfl, g1, g2⟩ := ty_fit_1 hf
    have hx := hst.1
    have hx2 := g1.1 rfl
    rw [List.length_cons, Int.natCast_add] at hb
    rw [List.length_cons] at h32
    have w2 : px_w32 ((xs.length : Int) + (1 : Nat) - 1) = (xs.length : Int) := by rw [ty_w (by omega)]; omega
    have w3 : px_w32 (1 - x) = 1 - x := ty_w (by omega)
    refine ⟨px_up i 72 (xs.length : Int) (1 - x), vI 10032, vI (10032 - 10000), ?_, px_nl_I _, px_nl_I _, ty_ch_up (List.mem_singleton.mpr rfl), up _ _ _ rfl hst.2, h32⟩
    rw [List.length_cons, Int.natCast_add, hb, if_pos (by omega), if_pos (by omega), if_neg (by omega), if_pos (by omega), w2, q33i hr _ _ _ (px_s72 L) (Nat.le_of_ble_eq_true rfl) _ (by omega), Option.bind_some, px_psh_some, b72_R68t_168 hr _ _ _ ht, hx, w3, q34i hr _ _ _ (px_s72 L) (Nat.le_of_ble_eq_true rfl) _ _ (by omega), Option.bind_some, px_psh_none, b72_R68t_172 hr _ _ _ ht, w5]
    rfl
  all_goals
    obtain ⟨x, y, xs, rfl, g1, g2, g3⟩ := ty_fit_2 hf
    have hx := hst.1
    have hy := hst.2.1
    rw [List.length_cons, Int.natCast_add] at hx
    rw [List.length_cons, List.length_cons, Int.natCast_add, Int.natCast_add] at hb
    rw [List.length_cons, List.length_cons] at h32
    have w2 : px_w32 ((xs.length : Int) + (1 : Nat) + (1 : Nat) + (-1)) = (xs.length : Int) + (1 : Nat) := by rw [ty_w (by omega)]; omega
    have w3 : px_w32 ((xs.length : Int) + (1 : Nat) - 1) = (xs.length : Int) := by rw [ty_w (by omega)]; omega
    have e : ty_act (i 71) c (x :: y :: xs) = ty_join c y x :: xs := by
      unfold ty_act
      rw [if_neg (by omega), if_neg (by omega), if_neg (by omega), if_neg (by omega)]
    rw [e]
    refine ⟨px_up i 72 (xs.length : Int) (ty_join c y x), vI c, vI (c - 10000), ?_, px_nl_I _, px_nl_I _, ty_ch_up (List.mem_singleton.mpr rfl), up _ _ _ rfl hst.2.2, by rw [List.length_cons]; omega⟩
    have hj := q73 (L := L) (t := t) hr d i l c y x g2.2 g1.2
    rw [List.length_cons, List.length_cons, Int.natCast_add, Int.natCast_add, hb, if_pos (by omega), if_pos (by omega), if_neg (by omega), if_neg (by omega), w2, w3, q33i hr _ _ _ (px_s72 L) (Nat.le_of_ble_eq_true rfl) _ (by omega), Option.bind_some, px_psh_some, b72_R68t_197 hr _ _ _ ht, hy, q33i hr _ _ _ (px_s72 L) (Nat.le_of_ble_eq_true rfl) _ (by omega), Option.bind_some, px_psh_some, b72_R68t_205 hr _ _ _ ht, hx]
    rw [hj (by first | exact Or.inl (by omega) | exact Or.inr ⟨h1, g2.1 rfl, g1.1 rfl⟩), Option.bind_some, px_psh_some, b72_R68t_208 hr _ _ _ ht, q34i hr _ _ _ (px_s72 L) (Nat.le_of_ble_eq_true rfl) _ _ (by omega), Option.bind_some, px_psh_none, b72_R68t_211 hr _ _ _ ht, w5, List.length_cons, Int.natCast_add]
theorem ty_run_n (hr : px_hr r) {T : Nat} (ht : px_tx T) (d : Nat) (l : MI) (x2 x4 : Int) (h4 : x4 ≤ 300) (b : Bool) : ∀ (cs : List Int) (i : MI) (st : List Int) (ts : List Bool) (x5 : Int) (v6 v7 : PV), px_nl v6 → px_nl v7 → (∀ c, c ∈ cs → ty_sgn c) → ty_eok (i 71) cs → ty_fit st ts → ty_chk cs ts = some [b] → ty_stk (i 72) st → st.length ≤ 32 → ty_seg (i (T + 1)) x5 cs → x4 = x5 + cs.length → 0 ≤ x5 →
    ∃ i1 : MI, px_X (d + 1) 72 (34, [vR 68, vR T, vI x2, vI (st.length : Int), vI x4, vI x5, v6, v7], []) (px_sh L, i, l, r, t) = some (some (vI ((ty_ev (i 71) cs st).headD 0)), (px_sh L, i1, l, r, t)) ∧ ty_ch [72] i i1
  | [], i, st, ts, x5, v6, v7, hn6, hn7, hs, he, hf, hk, hst, h32, hg, hx, h5 => by
    refine ⟨i, ?_, ty_ch_rf⟩
    cases hk
    obtain ⟨x, xs, rfl, g1, g2⟩ := ty_fit_1 hf
    have : xs = [] := by
      cases xs with
      | nil => rfl
      | cons _ _ => exact g2.elim
    subst this
    have h0 := hst.1
    simp only [List.length_nil] at hx h0
    rw [b72_R68t_34 (L := L) (t := t) hr d i l ht x2 _ x4 x5 hn6 hn7 (fun _ => by omega), if_pos (by omega), q33i hr _ _ _ (px_s72 L) (Nat.le_of_ble_eq_true rfl) _ (by omega), Option.bind_some, px_psh_some, b72_R68t_225 hr _ _ _ (px_nl_R T) _ _ _ _ hn6 hn7]
    have h0' : i 72 0 = x := h0
    rw [h0']
    rfl
  | c :: cs, i, st, ts, x5, v6, v7, hn6, hn7, hs, he, hf, hk, hst, h32, hg, hx, h5 => by
    obtain ⟨t1, k1, k2⟩ := ty_chk_cons hk
    rw [List.length_cons, Int.natCast_add] at hx
    obtain ⟨i1, u6, u7, e1, n6, n7, hch, hst', h32'⟩ := ty_run_1 (L := L) (t := t) hr ht d i l c st ts t1 x2 x4 x5 v6 v7 hn6 hn7 (hs c List.mem_cons_self) hg.1 hf hst k1 h32 h5 (by omega) h4
    have r71 : i1 71 = i 71 := hch 71 (by decide)
    have rT : i1 (T + 1) = i (T + 1) := hch (T + 1) (by
      unfold px_tx at ht
      simp only [List.mem_singleton]
      omega)
    obtain ⟨i2, e2, hch2⟩ := ty_run_n hr ht d l x2 x4 h4 b cs i1 (ty_act (i 71) c st) t1 (x5 + 1) u6 u7 n6 n7 (fun c hc => hs c (List.mem_cons_of_mem _ hc)) (by rw [r71]; exact fun c hc => he c (List.mem_cons_of_mem _ hc)) (ty_act_fit (hs c List.mem_cons_self) (he c List.mem_cons_self) hf k1) k2 hst' h32' (by rw [rT]; exact hg.2) (by omega) (by omega)
    refine ⟨i2, ?_, ty_ch_tr hch hch2 rfl rfl⟩
    rw [e1, e2, r71]
    rfl
/-- a clause's signs, well made -/
def ty_good (i : MI) (T : Nat) (k : Int) : Prop := (0 ≤ k ∧ k < 10) ∧ (0 ≤ i (T + 3) k ∧ i (T + 3) k ≤ i (T + 4) k ∧ i (T + 4) k ≤ 300) ∧ (∀ c, c ∈ ty_codes i T k → ty_sgn c) ∧ ∃ b, ty_chk (ty_codes i T k) [] = some [b]
theorem ty_codes_len (i : MI) (T : Nat) (k : Int) : (ty_codes i T k).length = (i (T + 4) k - i (T + 3) k).toNat := by
  unfold ty_codes
  rw [List.length_map, List.length_range]
/-- run -/
theorem q72 (hr : px_hr r) {T : Nat} (ht : px_tx T) (d : Nat) (i l : MI) (k : Int) (hg : ty_good i T k) (he : ty_eok (i 71) (ty_codes i T k)) : ∃ i1 : MI, px_C (d + 1) 72 [vR 68, vR T, vI k] (px_sh L, i, l, r, t) = some (some (vI (ty_val i T k (i 71))), (px_sh L, i1, l, r, t)) ∧ ty_ch [72] i i1 := by
  obtain ⟨hk, h1, h2, b, h3⟩ := hg
  obtain ⟨i1, e1, c1⟩ := ty_run_n (L := L) (t := t) hr ht d l k (i (T + 4) k) h1.2.2 b (ty_codes i T k) i [] [] (i (T + 3) k) vJ vJ px_nl_J px_nl_J h2 he trivial h3 trivial (Nat.zero_le _) (ty_seg_map _ _ _) (by rw [ty_codes_len]; omega) h1.1
  refine ⟨i1, ?_, c1⟩
  rw [e72_R68t, b72_R68t_0 hr _ _ _ ht, q33i hr _ _ _ (px_tx_s4 ht) (px_tx_g ht 4) _ (by omega), Option.bind_some, px_psh_some, b72_R68t_10 hr _ _ _ ht, q33i hr _ _ _ (px_tx_s3 ht) (px_tx_g ht 3) _ (by omega), Option.bind_some, px_psh_some, if_neg (by omega), b72_R68t_29 hr _ _ _ ht]
  have e2 : (if 0 < i (T + 3) k then i (T + 3) k else 0) = i (T + 3) k := by split <;> omega
  rw [e2]
  exact e1
end TYR
