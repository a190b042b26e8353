/-! What signs come to: the reference's saysOf (183, 184, 185). -/
/-- signs of the reference from a place on -/
def ty_sg2 (f g : Int → Int) (x : Int) : List Int → Prop
  | [] => f x = 408
  | c :: cs => ty_tok c (f x) (g x) ∧ ty_sg2 f g (x + 1) cs
theorem ty_sg2_map (f g e : Int → Int) (a : Int) : ∀ (n : Nat) (x : Int), (∀ j : Int, 0 ≤ j → j < n → ty_tok (e (a + j)) (f (x + j)) (g (x + j))) → f (x + n) = 408 → ty_sg2 f g x ((List.range n).map (fun (j : Nat) => e (a + (j : Int))))
  | 0, x, _, h => by
    simpa [ty_sg2] using h
  | n + 1, x, h, h0 => by
    rw [List.range_succ_eq_map, List.map_cons, List.map_map]
    have h1 := h 0 (by omega) (by omega)
    have ex : x + 0 = x := by omega
    rw [ex] at h1
    refine ⟨h1, ?_⟩
    have e1 : ((fun (j : Nat) => e (a + (j : Int))) ∘ Nat.succ) = (fun (j : Nat) => e (a + 1 + (j : Int))) := by
      funext j
      show e (a + ((j + 1 : Nat) : Int)) = e (a + 1 + (j : Int))
      congr 1
      omega
    rw [e1]
    refine ty_sg2_map f g e (a + 1) n (x + 1) (fun j j0 j1 => ?_) ?_
    · have := h (j + 1) (by omega) (by omega)
      rw [show a + 1 + j = a + (j + 1) by omega, show x + 1 + j = x + (j + 1) by omega]
      exact this
    · rw [show x + 1 + (n : Int) = x + ((n + 1 : Nat) : Int) by omega]
      exact h0
/-- the reference's sign for the class's -/
def ty_opof (c : Int) : Int := if c < 10000 then 400 else if 10033 ≤ c then 401 else if c = 10020 then 402 else if c = 10032 then 405 else if c = 10031 then 406 else if c = 10030 then 407 else if c = 10010 then 43 else if c = 10011 then 45 else if c = 10012 then 42 else if c = 10013 then 47 else if c = 10014 then 60 else if c = 10015 then 300 else if c = 10016 then 62 else if c = 10017 then 301 else if c = 10018 then 61 else 35
theorem ty_op_of {c op v : Int} (h : ty_tok c op v) : op = ty_opof c ∧ (c < 10000 → v = c) ∧ (10033 ≤ c → v = c - 10033 ∧ 0 ≤ v ∧ v < 15) := by
  unfold ty_opof
  rcases h with h | h | h | h | h | h | h | h | h | h | h | h | h | h | h | h
  · rw [if_pos (by omega)]
    omega
  · rw [if_neg (by omega), if_pos (by omega)]
    omega
  · obtain ⟨rfl, rfl⟩ := h
    exact ⟨rfl, by omega, by omega⟩
  · obtain ⟨rfl, rfl⟩ := h
    exact ⟨rfl, by omega, by omega⟩
  · obtain ⟨rfl, rfl⟩ := h
    exact ⟨rfl, by omega, by omega⟩
  · obtain ⟨rfl, rfl⟩ := h
    exact ⟨rfl, by omega, by omega⟩
  · obtain ⟨rfl, rfl⟩ := h
    exact ⟨rfl, by omega, by omega⟩
  · obtain ⟨rfl, rfl⟩ := h
    exact ⟨rfl, by omega, by omega⟩
  · obtain ⟨rfl, rfl⟩ := h
    exact ⟨rfl, by omega, by omega⟩
  · obtain ⟨rfl, rfl⟩ := h
    exact ⟨rfl, by omega, by omega⟩
  · obtain ⟨rfl, rfl⟩ := h
    exact ⟨rfl, by omega, by omega⟩
  · obtain ⟨rfl, rfl⟩ := h
    exact ⟨rfl, by omega, by omega⟩
  · obtain ⟨rfl, rfl⟩ := h
    exact ⟨rfl, by omega, by omega⟩
  · obtain ⟨rfl, rfl⟩ := h
    exact ⟨rfl, by omega, by omega⟩
  · obtain ⟨rfl, rfl⟩ := h
    exact ⟨rfl, by omega, by omega⟩
  · obtain ⟨rfl, rfl⟩ := h
    exact ⟨rfl, by omega, by omega⟩
theorem ty_op_j {c : Int} (h : (10010 ≤ c ∧ c ≤ 10019) ∨ c = 10030 ∨ c = 10031) : ¬ ty_opof c = 408 ∧ ¬ ty_opof c = 400 ∧ ¬ ty_opof c = 401 ∧ ¬ ty_opof c = 402 ∧ ¬ ty_opof c = 405 := by
  rcases (by omega : c = 10010 ∨ c = 10011 ∨ c = 10012 ∨ c = 10013 ∨ c = 10014 ∨ c = 10015 ∨ c = 10016 ∨ c = 10017 ∨ c = 10018 ∨ c = 10019 ∨ c = 10030 ∨ c = 10031) with rfl | rfl | rfl | rfl | rfl | rfl | rfl | rfl | rfl | rfl | rfl | rfl <;> decide
section TYS
variable {L t : Nat} {r : MR}
theorem q183 (hr : px_hr r) (d : Nat) (i l : MI) (x : Int) : px_C d 183 [vL x] (px_sh L, i, l, r, t) = some (some (vL (ty_mil x)), (px_sh L, i, l, r, t)) := by
  rw [e183, b183_0 hr]
  simp only [cmp_le, cmp_ge]
  unfold ty_mil
  by_cases h : x ≤ 1000000
  · rw [if_pos h, if_neg (show ¬ 1000000 < x by omega)]
    by_cases h2 : -1000000 ≤ x
    · rw [if_pos h2, if_neg (show ¬ x < -1000000 by omega)]
    · rw [if_neg h2, if_pos (show x < -1000000 by omega)]
  · rw [if_neg h, if_pos (show 1000000 < x by omega)]
theorem q184 (hr : px_hr r) (d : Nat) (i l : MI) (c a b : Int) (ha : -1000000 ≤ a ∧ a ≤ 1000000) (hb : -1000000 ≤ b ∧ b ≤ 1000000) (hc : (10010 ≤ c ∧ c ≤ 10019) ∨ ((c = 10030 ∨ c = 10031) ∧ (a = 0 ∨ a = 1) ∧ (b = 0 ∨ b = 1))) : px_C (d + 1) 184 [vI (ty_opof c), vL a, vL b] (px_sh L, i, l, r, t) = some (some (vL (ty_join c a b)), (px_sh L, i, l, r, t)) := by
  have hm := ty_mul_b ha hb
  rw [e184, b184_0 hr d i l (ty_opof c) a b (fun _ _ _ _ _ h => fun h0 => h (by rw [cmp_eq]; exact h0))]
  simp only [cmp_le, cmp_ge, cmp_eq, cmp_lt, cmp_gt]
  rcases hc with hc | ⟨hc, h1, h2⟩
  · rcases (by omega : c = 10010 ∨ c = 10011 ∨ c = 10012 ∨ c = 10013 ∨ c = 10014 ∨ c = 10015 ∨ c = 10016 ∨ c = 10017 ∨ c = 10018 ∨ c = 10019) with rfl | rfl | rfl | rfl | rfl | rfl | rfl | rfl | rfl | rfl
    · rw [show ty_opof 10010 = 43 from rfl, if_neg (by omega), if_neg (by omega), if_pos rfl, ty_j0]
      rw [ty_w6 (by omega), q183 hr, Option.bind_some, px_psh_some, b184_106 hr]
    · rw [show ty_opof 10011 = 45 from rfl, if_neg (by omega), if_neg (by omega), if_neg (by omega), if_pos rfl, ty_j1]
      rw [ty_w6 (by omega), q183 hr, Option.bind_some, px_psh_some, b184_113 hr]
    · rw [show ty_opof 10012 = 42 from rfl, if_neg (by omega), if_pos rfl, ty_j2]
      rw [ty_w6 (by omega), q183 hr, Option.bind_some, px_psh_some, b184_120 hr]
    · rw [show ty_opof 10013 = 47 from rfl, if_neg (by omega), if_neg (by omega), if_neg (by omega), if_neg (by omega), if_pos rfl, ty_j3]
      by_cases h0 : b = 0
      · rw [if_pos h0, if_pos h0]
      · have hd := ty_tdiv_b b ha
        rw [if_neg h0, if_neg h0, ty_w6 (by omega)]
    · rw [show ty_opof 10014 = 60 from rfl, if_neg (by omega), if_neg (by omega), if_neg (by omega), if_neg (by omega), if_neg (by omega), if_pos rfl, ty_j4]
      by_cases h0 : b ≤ a
      · rw [if_pos h0, if_neg (by omega)]
      · rw [if_neg h0, if_pos (by omega)]
    · rw [show ty_opof 10015 = 300 from rfl, if_neg (by omega), if_neg (by omega), if_neg (by omega), if_neg (by omega), if_neg (by omega), if_neg (by omega), if_neg (by omega), if_neg (by omega), if_pos rfl, ty_j5]
      by_cases h0 : b < a
      · rw [if_pos h0, if_neg (by omega)]
      · rw [if_neg h0, if_pos (by omega)]
    · rw [show ty_opof 10016 = 62 from rfl, if_neg (by omega), if_neg (by omega), if_neg (by omega), if_neg (by omega), if_neg (by omega), if_neg (by omega), if_neg (by omega), if_pos rfl, ty_j6]
      by_cases h0 : a ≤ b
      · rw [if_pos h0, if_neg (by omega)]
      · rw [if_neg h0, if_pos (by omega)]
    · rw [show ty_opof 10017 = 301 from rfl, if_neg (by omega), if_neg (by omega), if_neg (by omega), if_neg (by omega), if_neg (by omega), if_neg (by omega), if_neg (by omega), if_neg (by omega), if_neg (by omega), if_pos rfl, ty_j7]
      by_cases h0 : a < b
      · rw [if_pos h0, if_neg (by omega)]
      · rw [if_neg h0, if_pos (by omega)]
    · rw [show ty_opof 10018 = 61 from rfl, if_neg (by omega), if_neg (by omega), if_neg (by omega), if_neg (by omega), if_neg (by omega), if_neg (by omega), if_pos rfl, ty_j8]
      by_cases h0 : a = b
      · rw [if_pos h0, if_pos h0]
      · rw [if_neg h0, if_neg h0]
    · rw [show ty_opof 10019 = 35 from rfl, if_pos rfl, ty_j9]
      by_cases h0 : a = b
      · rw [if_pos h0, if_pos h0]
      · rw [if_neg h0, if_neg h0]
  · rcases hc with rfl | rfl
    · rw [show ty_opof 10030 = 407 from rfl, if_neg (by omega), if_neg (by omega), if_neg (by omega), if_neg (by omega), if_neg (by omega), if_neg (by omega), if_neg (by omega), if_neg (by omega), if_neg (by omega), if_neg (by omega), if_neg (by omega), ty_w6 (by omega), ty_j30]
      by_cases h0 : a + b ≤ 0
      · rw [if_pos h0, if_neg (by omega)]
      · rw [if_neg h0, if_pos (by omega)]
    · rw [show ty_opof 10031 = 406 from rfl, if_neg (by omega), if_neg (by omega), if_neg (by omega), if_neg (by omega), if_neg (by omega), if_neg (by omega), if_neg (by omega), if_neg (by omega), if_neg (by omega), if_neg (by omega), if_pos rfl, ty_w6 (by omega), ty_j31]
      rcases h1 with rfl | rfl
      · rw [Int.zero_mul]
        rfl
      · rw [Int.one_mul]
        rcases h2 with rfl | rfl <;> rfl
theorem ty_says_1 (hr : px_hr r) (d : Nat) (i l : MI) (c : Int) (st : List Int) (ts ts' : List Bool) (x1 x3 : Int) (v4 : PV) (hn4 : px_nl v4) (hs : ty_sgn c) (hc : ty_tok c (i 130 x3) (i 131 x3)) (hf : ty_fit st ts) (hst : ty_stk (l 141) st) (h : ty_step c ts = some ts') (h32 : st.length ≤ 32) (h3 : 0 ≤ x3 ∧ x3 < 2400) :
    ∃ (l1 : MI) (v4' : PV), px_X (d + 2) 185 (4, [vR 123, vI x1, vI (st.length : Int), vI x3, v4], []) (px_sh L, i, l, r, t) = px_X (d + 2) 185 (4, [vR 123, vI x1, vI ((ty_act (i 140) c st).length : Int), vI (x3 + 1), v4'], []) (px_sh L, i, l1, r, t) ∧
      px_nl v4' ∧ ty_ch [141] l l1 ∧ ty_stk (l1 141) (ty_act (i 140) c st) ∧ (ty_act (i 140) c st).length ≤ 32 := by
  have hs' := hs
  have hlen := ty_fit_len hf
  unfold ty_sgn at hs'
  obtain ⟨hop, hv1, hv2⟩ := ty_op_of hc
  have w5 : px_w32 (x3 + 1) = x3 + 1 := ty_w (by omega)
  have up : ∀ (n : Nat) (xs : List Int) (v : Int), xs.length = n → ty_stk (l 141) xs → ty_stk (px_up l 141 (n : Int) v 141) (v :: xs) := fun n xs v hn hx => ty_stk_up hx (by rw [hn]; exact ty_up_eq) (fun j j0 j1 => ty_up_j (by omega))
  have w2 : px_w32 ((st.length : Int) - 1) = (st.length : Int) - 1 := ty_w (by omega)
  have w3 : px_w32 ((st.length : Int) + (-1)) = (st.length : Int) - 1 := by rw [ty_w (by omega)]; omega
  have w4 : px_w32 ((st.length : Int) - 1 - 1) = (st.length : Int) - 2 := by rw [ty_w (by omega)]; omega
  have hb := b185_4 (L := L) (t := t) hr (d + 1) i l x1 (st.length : Int) x3 hn4 h3 (fun _ => h3)
  rw [w3, w4, w2] at hb
  rcases ty_step_inv hs h with ⟨h1, h2, rfl⟩ | ⟨rfl, q, rfl, rfl⟩ | ⟨rfl, q, rfl, rfl⟩ | ⟨h1, q, rfl, rfl⟩ | ⟨h1, q, rfl, rfl⟩ | ⟨h1, q, rfl, rfl⟩
  · have hpp : i 130 x3 = 400 ∨ i 130 x3 = 401 := by
      rcases h1 with h1 | h1
      · exact Or.inl (hop.trans (if_pos h1))
      · exact Or.inr (hop.trans (by unfold ty_opof; rw [if_neg (by omega), if_pos h1]))
    have hb := hb (by omega) (by omega) (by omega) (by omega)
    rcases h1 with h1 | h1
    · have e : ty_act (i 140) c st = c :: st := if_pos h1
      rw [e]
      have ho : i 130 x3 = 400 ∧ i 131 x3 = c := ⟨hop.trans (if_pos h1), hv1 h1⟩
      refine ⟨px_up l 141 (st.length : Int) c, vI 400, ?_, px_nl_I _, ty_ch_up (List.mem_singleton.mpr rfl), up _ _ _ rfl hst, by rw [List.length_cons]; omega⟩
      rw [hb, ho.1, if_neg (by omega), if_pos rfl, b185_40 hr _ _ _ _ _ _ _ (by omega) (by omega) (by omega) (by omega) (by omega), if_pos rfl, ho.2, w5, ty_w (by omega), List.length_cons, Int.natCast_add]
      rfl
    · have e : ty_act (i 140) c st = i 140 (c - 10033) :: st := by
        unfold ty_act
        rw [if_neg (by omega), if_pos h1]
      have ho : i 130 x3 = 401 ∧ i 131 x3 = c - 10033 := ⟨hop.trans (by unfold ty_opof; rw [if_neg (by omega), if_pos h1]), (hv2 h1).1⟩
      rw [e]
      refine ⟨px_up l 141 (st.length : Int) (i 140 (c - 10033)), vI 401, ?_, px_nl_I _, ty_ch_up (List.mem_singleton.mpr rfl), up _ _ _ rfl hst, by rw [List.length_cons]; omega⟩
      rw [hb, ho.1, if_neg (by omega), if_neg (by omega), if_pos rfl, b185_40 hr _ _ _ _ _ _ _ (by omega) (by omega) (by omega) (by omega) (by omega), if_neg (by omega), ho.2, w5, ty_w (by omega), List.length_cons, Int.natCast_add]
      rfl
  · obtain ⟨x, xs, rfl, g1, g2⟩ := ty_fit_1 hf
    have hx := hst.1
    have ho : i 130 x3 = 402 := hop
    rw [List.length_cons] at h32
    have ew : ((x :: xs).length : Int) - 1 = (xs.length : Int) := by rw [List.length_cons]; omega
    have w6 : px_w64 (-x) = -x := ty_w6 (by omega)
    have hb := hb (by omega) (by omega) (by omega) (by omega)
    refine ⟨px_up l 141 (xs.length : Int) (-x), vI 402, ?_, px_nl_I _, ty_ch_up (List.mem_singleton.mpr rfl), up _ _ _ rfl hst.2, h32⟩
    rw [hb, ho, if_neg (by omega), if_neg (by omega), if_neg (by omega), if_pos rfl, ew, hx, w6, w5]
    rfl
  · obtain ⟨x, xs, rfl, g1, g2⟩ := ty_fit_1 hf
    have hx := hst.1
    have hx2 := g1.1 rfl
    have ho : i 130 x3 = 405 := hop
    rw [List.length_cons] at h32
    have ew : ((x :: xs).length : Int) - 1 = (xs.length : Int) := by rw [List.length_cons]; omega
    have w6 : px_w64 (1 - x) = 1 - x := ty_w6 (by omega)
    have hb := hb (by omega) (by omega) (by omega) (by omega)
    refine ⟨px_up l 141 (xs.length : Int) (1 - x), vI 405, ?_, px_nl_I _, ty_ch_up (List.mem_singleton.mpr rfl), up _ _ _ rfl hst.2, h32⟩
    rw [hb, ho, if_neg (by omega), if_neg (by omega), if_neg (by omega), if_neg (by omega), if_pos rfl, ew, hx, w6, w5]
    rfl
  all_goals
    obtain ⟨x, y, xs, rfl, g1, g2, g3⟩ := ty_fit_2 hf
    have hx := hst.1
    have hy := hst.2.1
    rw [List.length_cons, List.length_cons] at h32
    have ew : ((x :: y :: xs).length : Int) - 1 = ((y :: xs).length : Int) := by rw [List.length_cons, List.length_cons]; omega
    have ew2 : ((x :: y :: xs).length : Int) - 2 = (xs.length : Int) := by rw [List.length_cons, List.length_cons]; omega
    have el : ((y :: xs).length : Int) = (xs.length : Int) + 1 := by rw [List.length_cons]; omega
    have el2 : ((x :: y :: xs).length : Int) = (xs.length : Int) + 2 := by rw [List.length_cons, List.length_cons]; omega
    have hb := hb (by omega) (by omega) (by omega) (by omega)
    have e : ty_act (i 140) c (x :: y :: xs) = ty_join c y x :: xs := by
      unfold ty_act
      rw [if_neg (by omega), if_neg (by omega), if_neg (by omega), if_neg (by omega)]
    rw [e]
    refine ⟨px_up l 141 (xs.length : Int) (ty_join c y x), vI (ty_opof c), ?_, px_nl_I _, ty_ch_up (List.mem_singleton.mpr rfl), up _ _ _ rfl hst.2.2, by rw [List.length_cons]; omega⟩
    have hj := q184 (L := L) (t := t) hr d i l c y x g2.2 g1.2
    have hne := ty_op_j (c := c) (by omega)
    rw [hop] at hb
    rw [hb, if_neg hne.1, if_neg hne.2.1, if_neg hne.2.2.1, if_neg hne.2.2.2.1, if_neg hne.2.2.2.2, ew, ew2, hx, hy]
    rw [hj (by first | exact Or.inl (by omega) | exact Or.inr ⟨h1, g2.1 rfl, g1.1 rfl⟩), Option.bind_some, px_psh_some, b185_168 hr _ _ _ _ _ _ _ _ _ (by omega), w5, el]
    rfl
theorem ty_says_n (hr : px_hr r) (d : Nat) (i : MI) (x1 : Int) (b : Bool) : ∀ (cs : List Int) (l : MI) (st : List Int) (ts : List Bool) (x3 : Int) (v4 : PV), px_nl v4 → (∀ c, c ∈ cs → ty_sgn c) → ty_eok (i 140) cs → ty_fit st ts → ty_chk cs ts = some [b] → ty_stk (l 141) st → st.length ≤ 32 → ty_sg2 (i 130) (i 131) x3 cs → x3 + cs.length < 2400 → 0 ≤ x3 →
    ∃ l1 : MI, px_X (d + 2) 185 (4, [vR 123, vI x1, vI (st.length : Int), vI x3, v4], []) (px_sh L, i, l, r, t) = some (some (vL ((ty_ev (i 140) cs st).headD 0)), (px_sh L, i, l1, r, t)) ∧ ty_ch [141] l l1
  | [], l, st, ts, x3, v4, hn4, hs, he, hf, hk, hst, h32, hg, hx, h3 => by
    refine ⟨l, ?_, ty_ch_rf⟩
    cases hk
    obtain ⟨x, xs, rfl, g1, g2⟩ := ty_fit_1 hf
    have : xs = [] := by
      cases xs with
      | nil => rfl
      | cons _ _ => exact g2.elim
    subst this
    have h0 : l 141 0 = x := hst.1
    have hg' : i 130 x3 = 408 := hg
    simp only [List.length_nil] at hx
    rw [b185_4 (L := L) (t := t) hr (d + 1) i l x1 _ x3 hn4 (by omega) (by omega) (by omega) (by omega) (by omega) (by omega), if_pos hg', h0]
    rfl
  | c :: cs, l, st, ts, x3, v4, hn4, hs, he, hf, hk, hst, h32, hg, hx, h3 => by
    obtain ⟨t1, k1, k2⟩ := ty_chk_cons hk
    rw [List.length_cons, Int.natCast_add] at hx
    obtain ⟨l1, u4, e1, n4, hch, hst', h32'⟩ := ty_says_1 (L := L) (t := t) hr d i l c st ts t1 x1 x3 v4 hn4 (hs c List.mem_cons_self) hg.1 hf hst k1 h32 (by omega)
    obtain ⟨l2, e2, hch2⟩ := ty_says_n hr d i x1 b cs l1 (ty_act (i 140) c st) t1 (x3 + 1) u4 n4 (fun c hc => hs c (List.mem_cons_of_mem _ hc)) (fun c hc => he c (List.mem_cons_of_mem _ hc)) (ty_act_fit (hs c List.mem_cons_self) (he c List.mem_cons_self) hf k1) k2 hst' h32' hg.2 (by omega) (by omega)
    refine ⟨l2, ?_, ty_ch_tr hch hch2 rfl rfl⟩
    rw [e1, e2]
    rfl
/-- saysOf at clause k of text q -/
theorem q185 (hr : px_hr r) (d : Nat) (i l : MI) (q : Nat) (hq : q < 6) (k : Int) (hk : 0 ≤ k ∧ k < 10) (hc : ty_cl i q k) (he : ty_eok (i 140) (ty_codes i (73 + 5 * q) k)) : ∃ l1 : MI, px_C (d + 2) 185 [vR 123, vI (i 129 (10 * q + k))] (px_sh L, i, l, r, t) = some (some (vL (ty_val i (73 + 5 * q) k (i 140))), (px_sh L, i, l1, r, t)) ∧ ty_ch [141] l l1 := by
  obtain ⟨h1, h2, h3, h4, h5, h6⟩ := hc
  have hlen := ty_codes_len i (73 + 5 * q) k
  have e3 : 73 + 5 * q + 3 = 76 + 5 * q := by omega
  have e4 : 73 + 5 * q + 4 = 77 + 5 * q := by omega
  have e1 : 73 + 5 * q + 1 = 74 + 5 * q := by omega
  rw [e3, e4] at hlen
  have hseg : ty_sg2 (i 130) (i 131) (i 129 (10 * q + k)) (ty_codes i (73 + 5 * q) k) := by
    unfold ty_codes
    rw [e3, e4, e1]
    refine ty_sg2_map _ _ _ _ _ _ (fun j j0 j1 => (h4 j j0 (by omega)).1) ?_
    rw [show ((i (77 + 5 * q) k - i (76 + 5 * q) k).toNat : Int) = i (77 + 5 * q) k - i (76 + 5 * q) k by omega]
    exact h5
  have hsg : ∀ c, c ∈ ty_codes i (73 + 5 * q) k → ty_sgn c := by
    intro c hc
    unfold ty_codes at hc
    rw [e3, e4, e1] at hc
    obtain ⟨j, hj, rfl⟩ := List.mem_map.mp hc
    have hj' := List.mem_range.mp hj
    exact ty_sgn_tok (h4 (j : Int) (by omega) (by omega)).1
  obtain ⟨l1, e, c1⟩ := ty_says_n (L := L) (t := t) hr d i (i 129 (10 * q + k)) _ (ty_codes i (73 + 5 * q) k) l [] [] (i 129 (10 * q + k)) vJ px_nl_J hsg he trivial h6 trivial (Nat.zero_le _) hseg (by omega) (by omega)
  refine ⟨l1, ?_, c1⟩
  rw [e185, b185_0 hr]
  exact e
theorem ty_good_cl {i : MI} {q : Nat} {k : Int} (hk : 0 ≤ k ∧ k < 10) (hc : ty_cl i q k) : ty_good i (73 + 5 * q) k := by
  obtain ⟨h1, h2, h3, h4, h5, h6⟩ := hc
  have e3 : 73 + 5 * q + 3 = 76 + 5 * q := by omega
  have e4 : 73 + 5 * q + 4 = 77 + 5 * q := by omega
  have e1 : 73 + 5 * q + 1 = 74 + 5 * q := by omega
  refine ⟨hk, by rw [e3, e4]; exact h2, fun c hc => ?_, _, h6⟩
  unfold ty_codes at hc
  rw [e3, e4, e1] at hc
  obtain ⟨j, hj, rfl⟩ := List.mem_map.mp hc
  have hj' := List.mem_range.mp hj
  exact ty_sgn_tok (h4 (j : Int) (by omega) (by omega)).1
/-- which names stand in a clause -/
theorem ty_may_cl {i : MI} {q : Nat} {k : Int} (hc : ty_cl i q k) : ∀ c, c ∈ ty_codes i (73 + 5 * q) k → 10033 ≤ c → ty_may (i (75 + 5 * q) k) (c - 10033) := by
  obtain ⟨h1, h2, h3, h4, h5, h6⟩ := hc
  have e3 : 73 + 5 * q + 3 = 76 + 5 * q := by omega
  have e4 : 73 + 5 * q + 4 = 77 + 5 * q := by omega
  have e1 : 73 + 5 * q + 1 = 74 + 5 * q := by omega
  intro c hc h
  unfold ty_codes at hc
  rw [e3, e4, e1] at hc
  obtain ⟨j, hj, rfl⟩ := List.mem_map.mp hc
  have hj' := List.mem_range.mp hj
  exact (h4 (j : Int) (by omega) (by omega)).2 h
/-- a clause's value is small; of one that asks: 0 or 1 -/
theorem ty_val_b {i : MI} {q : Nat} {k : Int} (hk : 0 ≤ k ∧ k < 10) (hc : ty_cl i q k) {env : Int → Int} (he : ty_eok env (ty_codes i (73 + 5 * q) k)) : -1000000 ≤ ty_val i (73 + 5 * q) k env ∧ ty_val i (73 + 5 * q) k env ≤ 1000000 ∧ (4 ≤ i (75 + 5 * q) k → ty_val i (73 + 5 * q) k env = 0 ∨ ty_val i (73 + 5 * q) k env = 1) := by
  obtain ⟨_, _, hs, _⟩ := ty_good_cl hk hc
  have hf := ty_ev_fit (st := []) (ts := []) hs he trivial hc.2.2.2.2.2
  obtain ⟨x, xs, e, h1, h2⟩ := ty_fit_1 hf
  unfold ty_val
  rw [e]
  exact ⟨h1.2.1, h1.2.2, fun h => h1.1 (decide_eq_true h)⟩
theorem ty_sgn_cl {i : MI} {q : Nat} {k : Int} (hc : ty_cl i q k) : ∀ c, c ∈ ty_codes i (73 + 5 * q) k → ty_sgn c := by
  obtain ⟨h1, h2, h3, h4, h5, h6⟩ := hc
  have e3 : 73 + 5 * q + 3 = 76 + 5 * q := by omega
  have e4 : 73 + 5 * q + 4 = 77 + 5 * q := by omega
  have e1 : 73 + 5 * q + 1 = 74 + 5 * q := by omega
  intro c hc
  unfold ty_codes at hc
  rw [e3, e4, e1] at hc
  obtain ⟨j, hj, rfl⟩ := List.mem_map.mp hc
  have hj' := List.mem_range.mp hj
  exact ty_sgn_tok (h4 (j : Int) (by omega) (by omega)).1
theorem ty_eok_of {i : MI} {q : Nat} {k : Int} (hc : ty_cl i q k) {env : Int → Int} (h : ∀ v, 0 ≤ v → v < 15 → ty_may (i (75 + 5 * q) k) v → -1000000 ≤ env v ∧ env v ≤ 1000000) : ty_eok env (ty_codes i (73 + 5 * q) k) := by
  intro c hcm hc3
  have hm := ty_may_cl hc c hcm hc3
  have hs := ty_sgn_cl hc c hcm
  unfold ty_sgn at hs
  exact h _ (by omega) (by omega) hm
theorem ty_val_c {i : MI} {q : Nat} {k : Int} (hc : ty_cl i q k) {env env' : Int → Int} (h : ∀ v, 0 ≤ v → v < 15 → ty_may (i (75 + 5 * q) k) v → env' v = env v) : ty_val i (73 + 5 * q) k env' = ty_val i (73 + 5 * q) k env := by
  unfold ty_val
  rw [ty_ev_c (env := env) (env' := env') (fun c hcm hc3 => ?_)]
  have hm := ty_may_cl hc c hcm hc3
  have hs := ty_sgn_cl hc c hcm
  unfold ty_sgn at hs
  exact h _ (by omega) (by omega) hm
end TYS
