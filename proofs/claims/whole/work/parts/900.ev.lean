/-! Frames by cells; deciding comparisons; what signs come to. -/
def ty_ch (S : List Nat) (i i' : MI) : Prop := ∀ k : Nat, ¬ k ∈ S → i' k = i k
theorem ty_ch_rf {S : List Nat} {i : MI} : ty_ch S i i := fun _ _ => rfl
theorem ty_in {S S' : List Nat} (h : S.all (fun k => S'.contains k) = true) {k : Nat} (hk : k ∈ S) : k ∈ S' := List.contains_iff_mem.mp (List.all_eq_true.mp h k hk)
theorem ty_ch_tr {S S' S'' : List Nat} {i i' i'' : MI} (h : ty_ch S i i') (h' : ty_ch S' i' i'') (hS : S.all (fun k => S''.contains k) = true) (hS' : S'.all (fun k => S''.contains k) = true) : ty_ch S'' i i'' := fun k hk => (h' k (fun q => hk (ty_in hS' q))).trans (h k (fun q => hk (ty_in hS q)))
theorem ty_ch_w {S S' : List Nat} {i i' : MI} (h : ty_ch S i i') (hS : S.all (fun k => S'.contains k) = true) : ty_ch S' i i' := fun k hk => h k (fun q => hk (ty_in hS q))
theorem ty_ch_up {S : List Nat} {i : MI} {k : Nat} {x v : Int} (h : k ∈ S) : ty_ch S i (px_up i k x v) := fun _ hk' => ty_up_row (fun e => hk' (e ▸ h))
theorem ty_ch_un {S : List Nat} {i : MI} {k : Nat} {g : Int → Int} (h : k ∈ S) : ty_ch S i (px_un i k g) := fun _ hk' => ty_un_row (fun e => hk' (e ▸ h))
theorem cm_ltT {a b : Int} (h : a < b) : (a < b) = True := eq_true h
theorem cm_ltF {a b : Int} (h : ¬ a < b) : (a < b) = False := eq_false h
theorem cm_leT {a b : Int} (h : a ≤ b) : (a ≤ b) = True := eq_true h
theorem cm_leF {a b : Int} (h : ¬ a ≤ b) : (a ≤ b) = False := eq_false h
theorem cm_eqT {a b : Int} (h : a = b) : (a = b) = True := eq_true h
theorem cm_eqF {a b : Int} (h : ¬ a = b) : (a = b) = False := eq_false h
/-- a sign that a text may hold -/
def ty_sgn (c : Int) : Prop := (0 ≤ c ∧ c ≤ 9999) ∨ (10010 ≤ c ∧ c ≤ 10020) ∨ (10030 ≤ c ∧ c ≤ 10047)
theorem ty_sgn_tok {c op v : Int} (h : ty_tok c op v) : ty_sgn c := by
  unfold ty_tok at h
  unfold ty_sgn
  omega
/-- what waits fits its kinds -/
def ty_fit : List Int → List Bool → Prop
  | [], [] => True
  | x :: xs, b :: bs => ((b = true → x = 0 ∨ x = 1) ∧ -1000000 ≤ x ∧ x ≤ 1000000) ∧ ty_fit xs bs
  | _, _ => False
theorem ty_fit_len : ∀ {st : List Int} {ts : List Bool}, ty_fit st ts → st.length = ts.length
  | [], [], _ => rfl
  | _ :: xs, _ :: bs, h => by
    have := ty_fit_len h.2
    simp only [List.length_cons, this]
  | [], _ :: _, h => h.elim
  | _ :: _, [], h => h.elim
theorem ty_fit_1 {st : List Int} {b : Bool} {bs : List Bool} (h : ty_fit st (b :: bs)) : ∃ x xs, st = x :: xs ∧ ((b = true → x = 0 ∨ x = 1) ∧ -1000000 ≤ x ∧ x ≤ 1000000) ∧ ty_fit xs bs := by
  cases st with
  | nil => exact h.elim
  | cons x xs => exact ⟨x, xs, rfl, h.1, h.2⟩
theorem ty_fit_2 {st : List Int} {b b' : Bool} {bs : List Bool} (h : ty_fit st (b :: b' :: bs)) : ∃ x y xs, st = x :: y :: xs ∧ ((b = true → x = 0 ∨ x = 1) ∧ -1000000 ≤ x ∧ x ≤ 1000000) ∧ ((b' = true → y = 0 ∨ y = 1) ∧ -1000000 ≤ y ∧ y ≤ 1000000) ∧ ty_fit xs bs := by
  obtain ⟨x, r, rfl, h1, h2⟩ := ty_fit_1 h
  obtain ⟨y, xs, rfl, h3, h4⟩ := ty_fit_1 h2
  exact ⟨x, y, xs, rfl, h1, h3, h4⟩
theorem ty_step_inv {c : Int} {ts ts' : List Bool} (hs : ty_sgn c) (h : ty_step c ts = some ts') :
    ((c < 10000 ∨ 10033 ≤ c) ∧ ts.length < 32 ∧ ts' = false :: ts) ∨ (c = 10020 ∧ ∃ r, ts = false :: r ∧ ts' = false :: r) ∨ (c = 10032 ∧ ∃ r, ts = true :: r ∧ ts' = true :: r) ∨
    ((c = 10030 ∨ c = 10031) ∧ ∃ r, ts = true :: true :: r ∧ ts' = true :: r) ∨ ((10010 ≤ c ∧ c < 10014) ∧ ∃ r, ts = false :: false :: r ∧ ts' = false :: r) ∨ ((10014 ≤ c ∧ c ≤ 10019) ∧ ∃ r, ts = false :: false :: r ∧ ts' = true :: r) := by
  unfold ty_sgn at hs
  unfold ty_step at h
  split at h
  · split at h
    · cases h
      exact Or.inl ⟨by assumption, by assumption, rfl⟩
    · cases h
  · split at h
    · split at h
      · cases h
        exact Or.inr (Or.inl ⟨by assumption, _, rfl, rfl⟩)
      · cases h
    · split at h
      · split at h
        · cases h
          exact Or.inr (Or.inr (Or.inl ⟨by assumption, _, rfl, rfl⟩))
        · cases h
      · split at h
        · split at h
          · cases h
            exact Or.inr (Or.inr (Or.inr (Or.inl ⟨by assumption, _, rfl, rfl⟩)))
          · cases h
        · split at h
          · split at h
            · cases h
              exact Or.inr (Or.inr (Or.inr (Or.inr (Or.inl ⟨by omega, _, rfl, rfl⟩))))
            · cases h
          · split at h
            · cases h
              exact Or.inr (Or.inr (Or.inr (Or.inr (Or.inr ⟨by omega, _, rfl, rfl⟩))))
            · cases h
theorem ty_mil_b (x : Int) : -1000000 ≤ ty_mil x ∧ ty_mil x ≤ 1000000 := by
  unfold ty_mil
  split
  · omega
  · split <;> omega
theorem ty_tdiv_b {a : Int} (b : Int) (h : -1000000 ≤ a ∧ a ≤ 1000000) : -1000000 ≤ Int.tdiv a b ∧ Int.tdiv a b ≤ 1000000 := by
  have h1 : (Int.tdiv a b).natAbs ≤ a.natAbs := by
    rw [Int.natAbs_tdiv]
    exact Nat.div_le_self _ _
  omega
theorem ty_join_b {c a b : Int} (ha : -1000000 ≤ a ∧ a ≤ 1000000) : -1000000 ≤ ty_join c a b ∧ ty_join c a b ≤ 1000000 ∧ (10014 ≤ c → ty_join c a b = 0 ∨ ty_join c a b = 1) := by
  unfold ty_join
  by_cases h1 : c = 10010
  · rw [if_pos h1]
    have := ty_mil_b (a + b)
    omega
  · rw [if_neg h1]
    by_cases h2 : c = 10011
    · rw [if_pos h2]
      have := ty_mil_b (a - b)
      omega
    · rw [if_neg h2]
      by_cases h3 : c = 10012
      · rw [if_pos h3]
        have := ty_mil_b (a * b)
        omega
      · rw [if_neg h3]
        by_cases h4 : c = 10013
        · rw [if_pos h4]
          by_cases h5 : b = 0
          · rw [if_pos h5]
            omega
          · rw [if_neg h5]
            have := ty_tdiv_b b ha
            omega
        · rw [if_neg h4]
          have hb : ∀ (p : Prop) [Decidable p], (if p then (1 : Int) else 0) = 0 ∨ (if p then (1 : Int) else 0) = 1 := fun p _ => by
            by_cases hp : p
            · rw [if_pos hp]; exact Or.inr rfl
            · rw [if_neg hp]; exact Or.inl rfl
          have hc : ∀ (p : Prop) [Decidable p], (if p then (0 : Int) else 1) = 0 ∨ (if p then (0 : Int) else 1) = 1 := fun p _ => by
            by_cases hp : p
            · rw [if_pos hp]; exact Or.inl rfl
            · rw [if_neg hp]; exact Or.inr rfl
          have key : ∀ x : Int, x = 0 ∨ x = 1 → -1000000 ≤ x ∧ x ≤ 1000000 ∧ (10014 ≤ c → x = 0 ∨ x = 1) := fun x hx => ⟨by omega, by omega, fun _ => hx⟩
          apply key
          by_cases h5 : c = 10014
          · rw [if_pos h5]; exact hb _
          · rw [if_neg h5]
            by_cases h6 : c = 10015
            · rw [if_pos h6]; exact hb _
            · rw [if_neg h6]
              by_cases h7 : c = 10016
              · rw [if_pos h7]; exact hb _
              · rw [if_neg h7]
                by_cases h8 : c = 10017
                · rw [if_pos h8]; exact hb _
                · rw [if_neg h8]
                  by_cases h9 : c = 10018
                  · rw [if_pos h9]; exact hb _
                  · rw [if_neg h9]
                    by_cases h10 : c = 10019
                    · rw [if_pos h10]; exact hc _
                    · rw [if_neg h10]
                      by_cases h11 : c = 10030
                      · rw [if_pos h11]; exact hb _
                      · rw [if_neg h11]; exact hb _
/-- names are small -/
def ty_eok (env : Int → Int) (cs : List Int) : Prop := ∀ c, c ∈ cs → 10033 ≤ c → -1000000 ≤ env (c - 10033) ∧ env (c - 10033) ≤ 1000000
theorem ty_act_fit {env : Int → Int} {c : Int} {st : List Int} {ts ts' : List Bool} (hs : ty_sgn c) (he : 10033 ≤ c → -1000000 ≤ env (c - 10033) ∧ env (c - 10033) ≤ 1000000) (hf : ty_fit st ts) (h : ty_step c ts = some ts') : ty_fit (ty_act env c st) ts' := by
  have hs' := hs
  unfold ty_sgn at hs'
  rcases ty_step_inv hs h with ⟨h1, -, rfl⟩ | ⟨rfl, r, rfl, rfl⟩ | ⟨rfl, r, rfl, rfl⟩ | ⟨h1, r, rfl, rfl⟩ | ⟨h1, r, rfl, rfl⟩ | ⟨h1, r, rfl, rfl⟩
  · unfold ty_act
    by_cases h2 : c < 10000
    · rw [if_pos h2]
      exact ⟨⟨(fun h => by cases h), by omega, by omega⟩, hf⟩
    · rw [if_neg h2, if_pos (by omega)]
      have := he (by omega)
      exact ⟨⟨(fun h => by cases h), by omega, by omega⟩, hf⟩
  · obtain ⟨x, xs, rfl, h1, h2⟩ := ty_fit_1 hf
    exact ⟨⟨(fun h => by cases h), by omega, by omega⟩, h2⟩
  · obtain ⟨x, xs, rfl, h1, h2⟩ := ty_fit_1 hf
    have h3 := h1.1 rfl
    exact ⟨⟨(fun _ => by omega), by omega, by omega⟩, h2⟩
  · obtain ⟨x, y, xs, rfl, h2, h3, h4⟩ := ty_fit_2 hf
    have hj := ty_join_b (c := c) (b := x) h3.2
    have he : ty_act env c (x :: y :: xs) = ty_join c y x :: xs := by
      unfold ty_act
      rw [if_neg (by omega), if_neg (by omega), if_neg (by omega), if_neg (by omega)]
    rw [he]
    exact ⟨⟨fun _ => hj.2.2 (by omega), hj.1, hj.2.1⟩, h4⟩
  · obtain ⟨x, y, xs, rfl, h2, h3, h4⟩ := ty_fit_2 hf
    have hj := ty_join_b (c := c) (b := x) h3.2
    have he : ty_act env c (x :: y :: xs) = ty_join c y x :: xs := by
      unfold ty_act
      rw [if_neg (by omega), if_neg (by omega), if_neg (by omega), if_neg (by omega)]
    rw [he]
    exact ⟨⟨(fun h => by cases h), hj.1, hj.2.1⟩, h4⟩
  · obtain ⟨x, y, xs, rfl, h2, h3, h4⟩ := ty_fit_2 hf
    have hj := ty_join_b (c := c) (b := x) h3.2
    have he : ty_act env c (x :: y :: xs) = ty_join c y x :: xs := by
      unfold ty_act
      rw [if_neg (by omega), if_neg (by omega), if_neg (by omega), if_neg (by omega)]
    rw [he]
    exact ⟨⟨fun _ => hj.2.2 (by omega), hj.1, hj.2.1⟩, h4⟩
theorem ty_chk_cons {c : Int} {cs : List Int} {ts ts'' : List Bool} (h : ty_chk (c :: cs) ts = some ts'') : ∃ ts', ty_step c ts = some ts' ∧ ty_chk cs ts' = some ts'' := by
  unfold ty_chk at h
  split at h
  · rename_i ts' h1
    exact ⟨ts', h1, h⟩
  · cases h
/-- signs from a place on -/
def ty_seg (f : Int → Int) (x : Int) : List Int → Prop
  | [] => True
  | c :: cs => f x = c ∧ ty_seg f (x + 1) cs
theorem ty_seg_map (f : Int → Int) : ∀ (n : Nat) (x : Int), ty_seg f x ((List.range n).map (fun (j : Nat) => f (x + (j : Int))))
  | 0, _ => trivial
  | n + 1, x => by
    rw [List.range_succ_eq_map, List.map_cons, List.map_map]
    refine ⟨by simp, ?_⟩
    have h := ty_seg_map f n (x + 1)
    have e : ((fun (j : Nat) => f (x + (j : Int))) ∘ Nat.succ) = (fun (j : Nat) => f (x + 1 + (j : Int))) := by
      funext j
      show f (x + ((j + 1 : Nat) : Int)) = f (x + 1 + (j : Int))
      congr 1
      omega
    rw [e]
    exact h
/-- a stack in a row -/
def ty_stk (f : Int → Int) : List Int → Prop
  | [] => True
  | x :: xs => f (xs.length : Int) = x ∧ ty_stk f xs
theorem ty_stk_c {f f' : Int → Int} : ∀ {xs : List Int} {n : Int}, (xs.length : Int) ≤ n → (∀ j : Int, 0 ≤ j → j < n → f' j = f j) → ty_stk f xs → ty_stk f' xs
  | [], _, _, _, _ => trivial
  | x :: xs, n, hn, hf, h => by
    simp only [List.length_cons] at hn
    exact ⟨(hf _ (by omega) (by omega)).trans h.1, ty_stk_c (n := n) (by omega) hf h.2⟩
theorem ty_stk_up {f f' : Int → Int} {xs : List Int} {v : Int} (h : ty_stk f xs) (h1 : f' (xs.length : Int) = v) (h2 : ∀ j : Int, 0 ≤ j → j < (xs.length : Int) → f' j = f j) : ty_stk f' (v :: xs) := ⟨h1, ty_stk_c (n := (xs.length : Int)) (by omega) h2 h⟩
theorem ty_ev_c {env env' : Int → Int} : ∀ {cs : List Int} {st : List Int}, (∀ c, c ∈ cs → 10033 ≤ c → env' (c - 10033) = env (c - 10033)) → ty_ev env' cs st = ty_ev env cs st
  | [], _, _ => rfl
  | c :: cs, st, h => by
    unfold ty_ev
    have e : ty_act env' c st = ty_act env c st := by
      unfold ty_act
      by_cases h1 : c < 10000
      · rw [if_pos h1, if_pos h1]
      · rw [if_neg h1, if_neg h1]
        by_cases h2 : 10033 ≤ c
        · rw [if_pos h2, if_pos h2, h c List.mem_cons_self h2]
        · rw [if_neg h2, if_neg h2]
    rw [e]
    exact ty_ev_c (fun c hc => h c (List.mem_cons_of_mem _ hc))
/-- what signs come to, is small -/
theorem ty_ev_fit {env : Int → Int} : ∀ {cs : List Int} {st : List Int} {ts ts' : List Bool}, (∀ c, c ∈ cs → ty_sgn c) → ty_eok env cs → ty_fit st ts → ty_chk cs ts = some ts' → ty_fit (ty_ev env cs st) ts'
  | [], st, ts, ts', _, _, hf, h => by
    cases h
    exact hf
  | c :: cs, st, ts, ts', hs, he, hf, h => by
    obtain ⟨t1, h1, h2⟩ := ty_chk_cons h
    exact ty_ev_fit (cs := cs) (st := ty_act env c st) (fun c hc => hs c (List.mem_cons_of_mem _ hc)) (fun c hc => he c (List.mem_cons_of_mem _ hc)) (ty_act_fit (hs c List.mem_cons_self) (he c List.mem_cons_self) hf h1) h2
