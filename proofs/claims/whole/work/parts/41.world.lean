/-! The pure memory and the heap that holds it. -/
/-- the classes' and arrays' numbers, the addresses of the script, of ALLOWED's array, of WORDS, and where what the law makes begins -/
abbrev PG : Type := va_G × (Nat → ClassId) × Nat × Nat × Nat × Nat
def px_adr (G : PG) (k : Nat) : Nat := if k = 0 then G.2.2.1 else if k = 1 then G.2.2.2.1 else if k = 2 then G.2.2.2.2.1 else G.2.2.2.2.2 + (k - 3)
abbrev px_ba (G : PG) : Nat := G.2.2.2.2.2
def px_A (G : PG) (q : Nat) : Prop := px_ba G ≤ q
def px_tr (G : PG) (v : PV) : Value := match v with
  | .inl x => .int (Int32.ofInt x)
  | .inr (.inl x) => .long (Int64.ofInt x)
  | .inr (.inr (.inl r)) => va_rf (r.map (px_adr G))
  | .inr (.inr (.inr _)) => .null
theorem px_tr_cat (G : PG) (v : PV) : (px_tr G v).category = px_cat v := by
  rcases v with x | x | r | u
  · rfl
  · rfl
  · cases r <;> rfl
  · rfl
def px_fv (G : PG) (s : PM) (k ci j : Nat) : Value := match px_ty ci j with
  | 3 => .long (Int64.ofInt (s.2.2.1 k j))
  | 4 => va_rf ((s.2.2.2.1 k j).map (px_adr G))
  | _ => .int (Int32.ofInt (s.2.1 k j))
def px_con (G : PG) (s : PM) (k t : Nat) : (Nat → Int32) ⊕ (Nat → Int64) ⊕ (Nat → UInt32) ⊕ (Nat → UInt64) ⊕ (Nat → Option Nat) :=
  if t = 3 then .inr (.inl (fun j => Int64.ofInt (s.2.2.1 k j)))
  else if 4 ≤ t then .inr (.inr (.inr (.inr (fun j => (s.2.2.2.1 k j).map (px_adr G)))))
  else .inl (fun j => Int32.ofInt (s.2.1 k j))
def px_cel (G : PG) (s : PM) (k : Nat) : va_E := match s.1[k]? with
  | some (.inl ci) => .inr (ci, (List.range (px_nf ci)).map (px_fv G s k ci))
  | some (.inr (t, n)) => .inl (G.2.1 t, n, px_con G s k t)
  | none => .inl (0, 0, .inl (fun _ => 0))
def px_wl (G : PG) (s : PM) : va_W := (List.range (s.1.length - 3)).map (fun q => (px_ba G + q, px_cel G s (q + 3)))
theorem px_wl_get (G : PG) (s : PM) {q : Nat} (h : q < s.1.length - 3) : (px_wl G s)[q]? = some (px_ba G + q, px_cel G s (q + 3)) := by
  unfold px_wl
  rw [List.getElem?_map, List.getElem?_range h]
  rfl
theorem px_wl_inv (G : PG) (s : PM) {q : Nat} {x : Nat × va_E} (h : (px_wl G s)[q]? = some x) : q < s.1.length - 3 ∧ x = (px_ba G + q, px_cel G s (q + 3)) := by
  have hq : q < s.1.length - 3 := by
    have := (List.getElem?_eq_some_iff.mp h).1
    simpa [px_wl] using this
  rw [px_wl_get G s hq] at h
  exact ⟨hq, (Option.some.inj h).symm⟩
theorem px_wl_D (G : PG) (s : PM) : va_D (px_A G) (px_wl G s) := by
  refine ⟨fun i j p q hi hj h => ?_, fun k q hq => ?_⟩
  · obtain ⟨-, rfl⟩ := px_wl_inv G s hi
    obtain ⟨-, rfl⟩ := px_wl_inv G s hj
    have h2 : px_ba G + i = px_ba G + j := h
    omega
  · obtain ⟨-, rfl⟩ := px_wl_inv G s hq
    exact Nat.le_add_right _ _
/-- all ints and longs within their ranges -/
def px_okm (s : PM) : Prop := ∀ (k : Nat) (j : Int), px_r32 (s.2.1 k j) ∧ px_r64 (s.2.2.1 k j)
def px_kdok (t : Nat) : Prop := t = 0 ∨ t = 1 ∨ t = 2 ∨ t = 3 ∨ t = 7 ∨ t = 15
def px_oks (s : PM) : Prop := ∀ (k : Nat) (t n : Nat), s.1[k]? = some (.inr (t, n)) → px_kdok t ∧ n ≤ 10000
/-- the cells that the law finds -/
def px_out (L : Nat) (xs alw : Nat → Int32) (s : PM) : Prop :=
  s.1[0]? = some (.inr (0, L)) ∧ s.1[1]? = some (.inr (0, 6)) ∧ s.1[2]? = some (.inl 99) ∧ (∀ j : Nat, j < L → Int32.ofInt (s.2.1 0 j) = xs j) ∧ ∀ j : Nat, j < 6 → Int32.ofInt (s.2.1 1 j) = alw j
def px_rel (G : PG) (L : Nat) (xs alw : Nat → Int32) (s : PM) (H : Heap) : Prop :=
  va_P G.1 px_cls (px_wl G s) H ∧ H.size = px_ba G + (s.1.length - 3) ∧ 3 ≤ s.1.length ∧ px_okm s ∧ px_oks s ∧ px_out L xs alw s
def px_okv (v : PV) : Prop := match v with
  | .inl x => px_r32 x
  | .inr (.inl x) => px_r64 x
  | _ => True
def px_okl (l : List PV) : Prop := ∀ v ∈ l, px_okv v
theorem px_okl_cons {v : PV} {l : List PV} : px_okl (v :: l) ↔ px_okv v ∧ px_okl l := by
  unfold px_okl
  exact List.forall_mem_cons
theorem px_okl_nil : px_okl [] := fun v h => by cases h
/-- the locals: what isn't junk is there -/
def px_LR (G : PG) (ls : Array Slot) (pl : List PV) (nL : Nat) : Prop :=
  ls.size = nL ∧ lv_wf ls ∧ pl.length = nL ∧ px_okl pl ∧ ∀ (n : Nat) (v : PV), pl[n]? = some v → v ≠ vJ → ls[n]? = some (.val (px_tr G v))
theorem px_adr_in (G : PG) {k : Nat} (h : 3 ≤ k) : px_adr G k = px_ba G + (k - 3) := by
  unfold px_adr
  rw [if_neg (by omega), if_neg (by omega), if_neg (by omega)]
/-- a cell of the world, by its shape -/
theorem px_at_cell {G : PG} {s : PM} {k : Nat} (h3 : 3 ≤ k) (hk : k < s.1.length) : (px_wl G s)[k - 3]? = some (px_adr G k, px_cel G s k) := by
  rw [px_wl_get G s (by omega), px_adr_in G h3, show k - 3 + 3 = k by omega]
theorem px_lt_of {s : PM} {k : Nat} {x : Sh} (h : s.1[k]? = some x) : k < s.1.length := (List.getElem?_eq_some_iff.mp h).1
theorem px_at_obj {G : PG} {s : PM} {k ci : Nat} (h3 : 3 ≤ k) (h : s.1[k]? = some (.inl ci)) : (px_wl G s)[k - 3]? = some (px_adr G k, .inr (ci, (List.range (px_nf ci)).map (px_fv G s k ci))) := by
  rw [px_at_cell h3 (px_lt_of h)]
  unfold px_cel
  rw [h]
theorem px_at_arr {G : PG} {s : PM} {k t n : Nat} (h3 : 3 ≤ k) (h : s.1[k]? = some (.inr (t, n))) : (px_wl G s)[k - 3]? = some (px_adr G k, .inl (G.2.1 t, n, px_con G s k t)) := by
  rw [px_at_cell h3 (px_lt_of h)]
  unfold px_cel
  rw [h]
/-- one cell is written -/
theorem px_rel_set {G : PG} {L : Nat} {xs alw : Nat → Int32} {s s' : PM} {H H' : Heap} {k : Nat} (h : px_rel G L xs alw s H) (h3 : 3 ≤ k) (hk : k < s.1.length) (hsh : s'.1 = s.1)
    (hoth : ∀ q : Nat, q ≠ k → (s'.2.1 q = s.2.1 q ∧ s'.2.2.1 q = s.2.2.1 q ∧ s'.2.2.2.1 q = s.2.2.2.1 q)) (hokm : px_okm s')
    (e1 : va_at G.1 px_cls (px_adr G k, px_cel G s' k) H') (e2 : H'.size = H.size) (e3 : ∀ q : Nat, q ≠ px_adr G k → H'[q]? = H[q]?) : px_rel G L xs alw s' H' := by
  obtain ⟨hP, hz, hl, hm, hs, o1, o2, o3, o4, o5⟩ := h
  have hcel : ∀ q : Nat, q ≠ k → px_cel G s' q = px_cel G s q := by
    intro q hq
    obtain ⟨g1, g2, g3⟩ := hoth q hq
    unfold px_cel px_con
    rw [hsh]
    cases s.1[q]? with
    | none => rfl
    | some x =>
      cases x with
      | inl ci =>
        have : px_fv G s' q ci = px_fv G s q ci := by
          funext j
          unfold px_fv
          rw [g1, g2, g3]
        simp only [this]
      | inr tn =>
        obtain ⟨t, n⟩ := tn
        simp only [g1, g2, g3]
  refine ⟨fun q x hx => ?_, by rw [e2, hz, hsh], by rw [hsh]; exact hl, hokm, fun q t n hq => hs q t n (by rw [← hsh]; exact hq), by rw [hsh]; exact o1, by rw [hsh]; exact o2, by rw [hsh]; exact o3, fun j hj => ?_, fun j hj => ?_⟩
  · obtain ⟨hq, rfl⟩ := px_wl_inv G s' hx
    rw [hsh] at hq
    by_cases hqk : q + 3 = k
    · rw [← hqk] at e1
      rw [px_adr_in G (by omega), show q + 3 - 3 = q by omega] at e1
      exact e1
    · rw [hcel _ hqk]
      refine (hP q _ (px_wl_get G s hq)).kept (e3 _ ?_)
      rw [px_adr_in G h3]
      show px_ba G + q ≠ _
      omega
  · rw [(hoth 0 (by omega)).1]; exact o4 j hj
  · rw [(hoth 1 (by omega)).1]; exact o5 j hj
/-- a cell is made -/
theorem px_rel_mk {G : PG} {L : Nat} {xs alw : Nat → Int32} {s : PM} {H H' : Heap} {x : Sh} {n : Nat} (h : px_rel G L xs alw s H) (hx : ∀ t m, x = .inr (t, m) → px_kdok t ∧ m ≤ 10000)
    (e1 : va_at G.1 px_cls (H.size, px_cel G (px_mk s x n) s.1.length) H') (e2 : H'.size = H.size + 1) (e3 : ∀ q : Nat, q < H.size → H'[q]? = H[q]?) : px_rel G L xs alw (px_mk s x n) H' := by
  obtain ⟨hP, hz, hl, hm, hs, o1, o2, o3, o4, o5⟩ := h
  have hget : ∀ q : Nat, q < s.1.length → (px_mk s x n).1[q]? = s.1[q]? := fun q hq => List.getElem?_append_left hq
  have hcel : ∀ q : Nat, q < s.1.length → px_cel G (px_mk s x n) q = px_cel G s q := by
    intro q hq
    have hne : ¬ q = s.1.length := by omega
    have g1 : (px_mk s x n).2.1 q = s.2.1 q := by funext j; simp [px_mk, px_un, hne]
    have g2 : (px_mk s x n).2.2.1 q = s.2.2.1 q := by funext j; simp [px_mk, px_un, hne]
    have g3 : (px_mk s x n).2.2.2.1 q = s.2.2.2.1 q := by funext j; simp [px_mk, px_un, hne]
    unfold px_cel px_con
    rw [hget q hq]
    cases s.1[q]? with
    | none => rfl
    | some y =>
      cases y with
      | inl ci =>
        have : px_fv G (px_mk s x n) q ci = px_fv G s q ci := by
          funext j
          unfold px_fv
          rw [g1, g2, g3]
        simp only [this]
      | inr tn =>
        obtain ⟨t, n⟩ := tn
        simp only [g1, g2, g3]
  have hlen : (px_mk s x n).1.length = s.1.length + 1 := by simp [px_mk]
  refine ⟨fun q y hy => ?_, by rw [e2, hz, hlen]; omega, by rw [hlen]; omega, fun k j => ?_, fun q t m hq => ?_, by rw [hget 0 (by omega)]; exact o1, by rw [hget 1 (by omega)]; exact o2, by rw [hget 2 (by omega)]; exact o3, fun j hj => ?_, fun j hj => ?_⟩
  · obtain ⟨hq, rfl⟩ := px_wl_inv G _ hy
    rw [hlen] at hq
    by_cases hql : q + 3 < s.1.length
    · rw [hcel _ hql]
      have h1 := hP q _ (px_wl_get G s (by omega))
      exact h1.kept (e3 _ h1.lt)
    · have hqe : q + 3 = s.1.length := by omega
      rw [hqe, show px_ba G + q = H.size by rw [hz]; omega]
      exact e1
  · by_cases hkl : k = s.1.length
    · have g1 : (px_mk s x n).2.1 k j = 0 := by simp [px_mk, px_un, hkl]
      have g2 : (px_mk s x n).2.2.1 k j = 0 := by simp [px_mk, px_un, hkl]
      rw [g1, g2]
      exact ⟨px_0r, ⟨by omega, by omega⟩⟩
    · have g1 : (px_mk s x n).2.1 k j = s.2.1 k j := by simp [px_mk, px_un, hkl]
      have g2 : (px_mk s x n).2.2.1 k j = s.2.2.1 k j := by simp [px_mk, px_un, hkl]
      rw [g1, g2]
      exact hm k j
  · by_cases hql : q < s.1.length
    · rw [hget q hql] at hq
      exact hs q t m hq
    · have : (px_mk s x n).1[q]? = some (.inr (t, m)) := hq
      have hq2 : q < (px_mk s x n).1.length := px_lt_of this
      have hqe : q = s.1.length := by omega
      subst hqe
      have : (s.1 ++ [x])[s.1.length]? = some (.inr (t, m)) := hq
      rw [List.getElem?_append_right (Nat.le_refl _), Nat.sub_self] at this
      exact hx t m (Option.some.inj this)
  · have : (px_mk s x n).2.1 0 = s.2.1 0 := by funext j; simp [px_mk, px_un, show ¬ 0 = s.1.length by omega]
    rw [this]; exact o4 j hj
  · have : (px_mk s x n).2.1 1 = s.2.1 1 := by funext j; simp [px_mk, px_un, show ¬ 1 = s.1.length by omega]
    rw [this]; exact o5 j hj
/-- locals: reading, and what a store leaves -/
theorem px_LR_get {G : PG} {ls : Array Slot} {pl : List PV} {nL n : Nat} {v : PV} (h : px_LR G ls pl nL) (hn : pl[n]? = some v) (hj : v ≠ vJ) : ls[n]? = some (.val (px_tr G v)) ∧ px_okv v :=
  ⟨h.2.2.2.2 n v hn hj, h.2.2.2.1 v (List.mem_of_getElem? hn)⟩
def px_ll (G : PG) (pl : List PV) : List (Nat × Value) := (List.range pl.length).filterMap (fun (n : Nat) => match (pl[n]? : Option PV) with
  | some (Sum.inr (Sum.inr (Sum.inr _))) => none
  | some v => some (n, px_tr G v)
  | none => none)
theorem px_ll_mem {G : PG} {pl : List PV} {n : Nat} {w : Value} : (n, w) ∈ px_ll G pl ↔ ∃ v, pl[n]? = some v ∧ v ≠ vJ ∧ w = px_tr G v := by
  unfold px_ll
  rw [List.mem_filterMap]
  constructor
  · rintro ⟨q, hq, h⟩
    cases hv : pl[q]? with
    | none => rw [hv] at h; cases h
    | some v =>
      rw [hv] at h
      rcases v with x | x | r | u
      · cases h; exact ⟨_, hv, (fun h => by cases h), rfl⟩
      · cases h; exact ⟨_, hv, (fun h => by cases h), rfl⟩
      · cases h; exact ⟨_, hv, (fun h => by cases h), rfl⟩
      · cases h
  · rintro ⟨v, hv, hj, rfl⟩
    refine ⟨n, List.mem_range.mpr (List.getElem?_eq_some_iff.mp hv).1, ?_⟩
    rw [hv]
    rcases v with x | x | r | u
    · rfl
    · rfl
    · rfl
    · exact absurd rfl hj
theorem px_LR_has {G : PG} {ls : Array Slot} {pl : List PV} {nL : Nat} (h : px_LR G ls pl nL) : lv_has ls nL (px_ll G pl) := by
  refine ⟨h.1, h.2.1, fun q hq => ?_⟩
  obtain ⟨n, w⟩ := q
  obtain ⟨v, hv, hj, rfl⟩ := px_ll_mem.mp hq
  exact h.2.2.2.2 n v hv hj
theorem px_clob_len (ls : List PV) (n : Nat) : (px_clob ls n).length = ls.length := by
  unfold px_clob
  cases n with
  | zero => rfl
  | succ k => dsimp only; split <;> simp
/-- what stays when place n is written over -/
theorem px_clob_get {ls : List PV} {n q : Nat} {v : PV} (h : (px_clob ls n)[q]? = some v) (hj : v ≠ vJ) : ls[q]? = some v ∧ ¬ (q + 1 = n ∧ px_cat v = 2) := by
  unfold px_clob at h
  cases n with
  | zero => exact ⟨h, fun hh => by omega⟩
  | succ k =>
    dsimp only at h
    split at h
    · rename_i x hx
      by_cases hq : q = k
      · subst hq
        rw [List.getElem?_set_self (List.getElem?_eq_some_iff.mp hx).1] at h
        exact absurd (Option.some.inj h).symm hj
      · rw [List.getElem?_set_ne (Ne.symm hq)] at h
        exact ⟨h, fun hh => hq (by omega)⟩
    · rename_i hx
      refine ⟨h, fun hh => ?_⟩
      obtain ⟨h1, h2⟩ := hh
      have : q = k := by omega
      subst this
      rcases v with x | x | r | u
      · cases h2
      · exact hx x h
      · cases h2
      · cases h2
theorem px_okl_set {l : List PV} {n : Nat} {v : PV} (h : px_okl l) (hv : px_okv v) : px_okl (l.set n v) := fun x hx => by
  rcases List.mem_or_eq_of_mem_set hx with h1 | h1
  · exact h x h1
  · rw [h1]; exact hv
theorem px_okl_clob {l : List PV} {n : Nat} (h : px_okl l) : px_okl (px_clob l n) := by
  unfold px_clob
  cases n with
  | zero => exact h
  | succ k =>
    dsimp only
    split
    · exact px_okl_set h trivial
    · exact h
theorem px_LR_st1 {G : PG} {ls ls' : Array Slot} {pl : List PV} {nL n : Nat} {v : PV} (h : px_LR G ls pl nL) (hn : n < nL) (hv : px_okv v) (hls : lv_has ls' nL ((n, px_tr G v) :: (px_ll G pl).filter (fun q => !(q.1 == n) && !(q.1 + 1 == n && q.2.category == 2)))) : px_LR G ls' (px_st1 pl n v) nL := by
  refine ⟨hls.1, hls.2.1, by unfold px_st1; rw [List.length_set, px_clob_len]; exact h.2.2.1, px_okl_set (px_okl_clob h.2.2.2.1) hv, fun q w hw hj => ?_⟩
  unfold px_st1 at hw
  by_cases hq : q = n
  · subst hq
    rw [List.getElem?_set_self (by rw [px_clob_len, h.2.2.1]; exact hn)] at hw
    cases hw
    exact hls.2.2 _ List.mem_cons_self
  · rw [List.getElem?_set_ne (Ne.symm hq)] at hw
    obtain ⟨h1, h2⟩ := px_clob_get hw hj
    refine hls.2.2 (q, px_tr G w) (List.mem_cons_of_mem _ (List.mem_filter.mpr ⟨px_ll_mem.mpr ⟨w, h1, hj, rfl⟩, ?_⟩))
    rw [px_tr_cat]
    simp only [Bool.and_eq_true, Bool.not_eq_true', beq_eq_false_iff_ne, ne_eq, hq, not_false_eq_true, true_and, Bool.and_eq_false_iff]
    rcases Nat.lt_or_ge (q + 1) n with h3 | h3
    · exact Or.inl (by omega)
    · by_cases h4 : q + 1 = n
      · exact Or.inr (fun h5 => h2 ⟨h4, h5⟩)
      · exact Or.inl h4
theorem px_LR_st2 {G : PG} {ls ls' : Array Slot} {pl : List PV} {nL n : Nat} {v : PV} (h : px_LR G ls pl nL) (hn : n + 1 < nL) (hv : px_okv v) (hls : lv_has ls' nL ((n, px_tr G v) :: (px_ll G pl).filter (fun q => !(q.1 == n) && (!(q.1 == n + 1) && !(q.1 + 1 == n && q.2.category == 2))))) : px_LR G ls' (px_st2 pl n v) nL := by
  refine ⟨hls.1, hls.2.1, by unfold px_st2; rw [List.length_set, List.length_set, px_clob_len]; exact h.2.2.1, px_okl_set (px_okl_set (px_okl_clob h.2.2.2.1) hv) trivial, fun q w hw hj => ?_⟩
  unfold px_st2 at hw
  by_cases hq1 : q = n + 1
  · subst hq1
    rw [List.getElem?_set_self (by rw [List.length_set, px_clob_len, h.2.2.1]; exact hn)] at hw
    exact absurd (Option.some.inj hw).symm hj
  rw [List.getElem?_set_ne (Ne.symm hq1)] at hw
  by_cases hq : q = n
  · subst hq
    rw [List.getElem?_set_self (by rw [px_clob_len, h.2.2.1]; omega)] at hw
    cases hw
    exact hls.2.2 _ List.mem_cons_self
  · rw [List.getElem?_set_ne (Ne.symm hq)] at hw
    obtain ⟨h1, h2⟩ := px_clob_get hw hj
    refine hls.2.2 (q, px_tr G w) (List.mem_cons_of_mem _ (List.mem_filter.mpr ⟨px_ll_mem.mpr ⟨w, h1, hj, rfl⟩, ?_⟩))
    rw [px_tr_cat]
    simp only [Bool.and_eq_true, Bool.not_eq_true', beq_eq_false_iff_ne, ne_eq, hq, hq1, not_false_eq_true, true_and, Bool.and_eq_false_iff]
    by_cases h4 : q + 1 = n
    · exact Or.inr (fun h5 => h2 ⟨h4, h5⟩)
    · exact Or.inl h4
