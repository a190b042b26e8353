/-! Nights: what a night leaves alone; quarrels. -/
/-- the places that a night writes -/
def tn_nt (x : Int) : Prop := x = 9 ∨ x = 10 ∨ 320 ≤ x ∨ ∃ g : Int, 0 ≤ g ∧ g < 10 ∧ 129 + 14 * g ≤ x ∧ x ≤ 132 + 14 * g
def tn_fr (i i' : MI) : Prop := (∀ k : Nat, (k < 9 ∨ (13 < k ∧ k < 104) ∨ (106 < k ∧ k < 109) ∨ (124 < k ∧ k < 132)) → i' k = i k) ∧ ∀ x : Int, ¬ tn_nt x → i' 124 x = i 124 x
theorem tn_nt_lo {x : Int} (h : x < 9) : ¬ tn_nt x := by
  rintro (h1 | h1 | h1 | ⟨g, h1, h2, h3, h4⟩) <;> omega
theorem tn_nt_p {x : Int} (h : 11 ≤ x ∧ x < 129) : ¬ tn_nt x := by
  rintro (h1 | h1 | h1 | ⟨g, h1, h2, h3, h4⟩) <;> omega
theorem tn_nt_g {g c : Int} (h : 0 ≤ g) (hg : g < 10) (hc : 0 ≤ c ∧ c < 9) : ¬ tn_nt (120 + 14 * g + c) := by
  rintro (h1 | h1 | h1 | ⟨g', h1, h2, h3, h4⟩) <;> omega
theorem tn_nt_m {x : Int} (h : 259 ≤ x ∧ x < 320) : ¬ tn_nt x := by
  rintro (h1 | h1 | h1 | ⟨g, h1, h2, h3, h4⟩) <;> omega
theorem tn_fr_rf {i : MI} : tn_fr i i := ⟨fun _ _ => rfl, fun _ _ => rfl⟩
theorem tn_fr_tr {i i' i'' : MI} (h : tn_fr i i') (h' : tn_fr i' i'') : tn_fr i i'' := ⟨fun k hk => (h'.1 k hk).trans (h.1 k hk), fun x hx => (h'.2 x hx).trans (h.2 x hx)⟩
theorem tn_fr_ch {S : List Nat} {i i' : MI} (hc : ty_ch S i i') (hS : S.all (fun k => decide (k ≠ 124 ∧ ¬ (k < 9 ∨ (13 < k ∧ k < 104) ∨ (106 < k ∧ k < 109) ∨ (124 < k ∧ k < 132)))) = true) : tn_fr i i' := by
  have hm : ∀ k, k ∈ S → k ≠ 124 ∧ ¬ (k < 9 ∨ (13 < k ∧ k < 104) ∨ (106 < k ∧ k < 109) ∨ (124 < k ∧ k < 132)) := fun k hk => of_decide_eq_true (List.all_eq_true.mp hS k hk)
  exact ⟨fun k hk => hc k (fun h => (hm k h).2 hk), fun x _ => by rw [hc 124 (fun h => (hm _ h).1 rfl)]⟩
theorem tn_Ho {i i' : MI} (h17 : i' 17 = i 17) (h4 : i' 124 4 = i 124 4) (hb : i 124 4 ≤ 10) (hg : ∀ g : Int, 0 ≤ g → g < 10 → i' 124 (120 + 14 * g) = i 124 (120 + 14 * g)) (h : ty_Ho 0 i (i 124)) : ty_Ho 0 i' (i' 124) := by
  obtain ⟨a, b⟩ := h
  have a' : ∀ x : Int, 0 ≤ x → x < i 124 4 → 0 ≤ i 17 x ∧ i 17 x < i 124 4 := a
  have b' : ∀ x y : Int, 0 ≤ x → x < y → y < i 124 4 → i 124 (120 + 14 * i 17 y) < i 124 (120 + 14 * i 17 x) ∨ (i 124 (120 + 14 * i 17 y) = i 124 (120 + 14 * i 17 x) ∧ i 17 x < i 17 y) := b
  refine ⟨fun x x0 x1 => ?_, fun x y x0 xy y1 => ?_⟩
  · show 0 ≤ i' 17 x ∧ i' 17 x < i' 124 4
    rw [h4] at x1 ⊢
    rw [h17]
    exact a' x x0 x1
  · show i' 124 (120 + 14 * i' 17 y) < i' 124 (120 + 14 * i' 17 x) ∨ (i' 124 (120 + 14 * i' 17 y) = i' 124 (120 + 14 * i' 17 x) ∧ i' 17 x < i' 17 y)
    rw [h4] at y1
    have ax := a' x x0 (by omega)
    have ay := a' y (by omega) y1
    rw [h17, hg _ ax.1 (by omega), hg _ ay.1 (by omega)]
    exact b' x y x0 xy y1
theorem tn_Q {i i' : MI} (h : ty_Q i) (hf : tn_fr i i') : ty_Q i' := by
  obtain ⟨⟨hL, hk, hw, ho⟩, g1, g2, g3, g4, g5⟩ := h
  obtain ⟨f1, f2⟩ := hf
  have r4 : i' 4 = i 4 := f1 4 (by omega)
  have e1 : ∀ k, 73 ≤ k → k < 103 → i' k = i k := fun k k0 k1 => f1 k (by omega)
  have e2 : ∀ k, 127 ≤ k → k < 132 → i' k = i k := fun k k0 k1 => f1 k (by omega)
  have lo : ∀ x : Int, x < 9 → i' 124 x = i 124 x := fun x hx => f2 x (tn_nt_lo hx)
  have hb1 := hL.1
  have hb2 := hL.2.1
  have hb3 := hL.2.2.1
  refine ⟨⟨ty_LW_c (by rw [r4]) (lo 6 (by omega)) e1 e2 hL, fun m m0 m1 => ?_, by rw [r4, lo 1 (by omega)]; exact hw, by rw [r4, lo 2 (by omega)]; exact ho⟩, by rw [r4, lo 4 (by omega)]; exact g1, by rw [r4, lo 3 (by omega)]; exact g2, ?_, fun g g0 gg c c0 c1 => ?_, ?_⟩
  · rw [f1 70 (by omega), ty_lev_c (by rw [r4]) (by rw [r4]) (by rw [r4]) (fun k k0 k1 => e1 k (by omega) (by omega))]
    exact hk m m0 m1
  · exact ty_Hp_c (f1 14 (by omega)) (f1 15 (by omega)) g2.2.2 (fun x hx => by
      rcases hx with hx | hx
      · exact lo x (by omega)
      · exact f2 x (tn_nt_p (by omega))) g3
  · rw [lo 4 (by omega)] at gg
    rw [f2 _ (tn_nt_g g0 (by omega) ⟨c0, c1⟩), f1 (21 + 0 + g.toNat) (by omega)]
    exact g4 g g0 gg c c0 c1
  · exact tn_Ho (f1 17 (by omega)) (lo 4 (by omega)) g1.2.2 (fun g g0 g1 => by
      have := f2 _ (tn_nt_g (c := 0) g0 g1 (by omega))
      rw [show 120 + 14 * g + 0 = 120 + 14 * g by omega] at this
      exact this) g5
def tn_fp (i i' : MI) : Prop := (∀ k : Nat, (k = 4 ∨ k = 17 ∨ (73 ≤ k ∧ k < 103)) → i' k = i k) ∧ ∀ x : Int, ¬ tn_nt x → i' 124 x = i 124 x
theorem tn_fp_fr {i i' : MI} (h : tn_fr i i') : tn_fp i i' := ⟨fun k hk => h.1 k (by omega), h.2⟩
theorem tn_fp_rf {i : MI} : tn_fp i i := ⟨fun _ _ => rfl, fun _ _ => rfl⟩
theorem tn_fp_tr {i i' i'' : MI} (h : tn_fp i i') (h' : tn_fp i' i'') : tn_fp i i'' := ⟨fun k hk => (h'.1 k hk).trans (h.1 k hk), fun x hx => (h'.2 x hx).trans (h.2 x hx)⟩
theorem tn_fp_ch {S : List Nat} {i i' : MI} (hc : ty_ch S i i') (hS : S.all (fun k => decide (k ≠ 124 ∧ ¬ (k = 4 ∨ k = 17 ∨ (73 ≤ k ∧ k < 103)))) = true) : tn_fp i i' := by
  have hm : ∀ k, k ∈ S → k ≠ 124 ∧ ¬ (k = 4 ∨ k = 17 ∨ (73 ≤ k ∧ k < 103)) := fun k hk => of_decide_eq_true (List.all_eq_true.mp hS k hk)
  exact ⟨fun k hk => hc k (fun h => (hm k h).2 hk), fun x _ => by rw [hc 124 (fun h => (hm _ h).1 rfl)]⟩
/-- the same wishes, choices, places -/
theorem tn_lev {i i' : MI} (h : ty_Q i) (hf : tn_fp i i') (m : Int) : ty_lev i' m = ty_lev i m := by
  obtain ⟨⟨hL, hk, hw, ho⟩, g1, g2, g3, g4, g5⟩ := h
  obtain ⟨f1, f2⟩ := hf
  have r4 : i' 4 = i 4 := f1 4 (by omega)
  have hb1 := hL.1
  have hb2 := hL.2.1
  have hb3 := hL.2.2.1
  exact ty_lev_c (by rw [r4]) (by rw [r4]) (by rw [r4]) (fun k k0 k1 => f1 k (by omega))
theorem tn_sov {i i' : MI} (h : ty_Q i) (hf : tn_fp i i') (kind : Int) (env : Int → Int) : ty_sov i' kind env = ty_sov i kind env := by
  obtain ⟨⟨hL, hk, hw, ho⟩, g1, g2, g3, g4, g5⟩ := h
  obtain ⟨f1, f2⟩ := hf
  have r4 : i' 4 = i 4 := f1 4 (by omega)
  have hb1 := hL.1
  have hb2 := hL.2.1
  have hb3 := hL.2.2.1
  unfold ty_sov
  rw [r4]
  by_cases h8 : i 4 8 = -1
  · rw [if_pos h8, if_pos h8]
  · rw [if_neg h8, if_neg h8, f1 (73 + 5 * (i 4 8).toNat) (by omega)]
    exact ty_so_ch (fun k k0 k1 => f1 k (by omega)) _ _
theorem tn_fnd {i i' : MI} (h : ty_Q i) (hf : tn_fp i i') (kind : Int) : ty_fnd i' kind = ty_fnd i kind := by
  obtain ⟨⟨hL, hk, hw, ho⟩, g1, g2, g3, g4, g5⟩ := h
  obtain ⟨f1, f2⟩ := hf
  have r4 : i' 4 = i 4 := f1 4 (by omega)
  have hb1 := hL.1
  have hb2 := hL.2.1
  have hb3 := hL.2.2.1
  unfold ty_fnd
  rw [r4]
  by_cases h8 : i 4 8 = -1
  · rw [if_pos h8, if_pos h8]
  · rw [if_neg h8, if_neg h8, f1 (73 + 5 * (i 4 8).toNat) (by omega)]
    exact ty_find_c (f1 _ (by omega)) _ _
theorem tn_vl {i i' : MI} (h : ty_Q i) (hf : tn_fp i i') (hn : ¬ i 4 8 = -1) (k : Int) (env : Int → Int) : ty_vl i' k env = ty_vl i k env := by
  obtain ⟨⟨hL, hk, hw, ho⟩, g1, g2, g3, g4, g5⟩ := h
  obtain ⟨f1, f2⟩ := hf
  have r4 : i' 4 = i 4 := f1 4 (by omega)
  have hb1 := hL.1
  have hb2 := hL.2.1
  have hb3 := hL.2.2.1
  unfold ty_vl ty_val
  rw [r4, ty_codes_c (f1 _ (by omega)) (f1 _ (by omega)) (f1 _ (by omega))]
theorem tn_wish {i i' : MI} (h : ty_Q i) (hf : tn_fp i i') {m g p : Int} (hg : 0 ≤ g ∧ g < 10) (hp : 0 ≤ p ∧ p < 8) (w : Int) : ty_wish i' m g p w = ty_wish i m g p w := by
  have hl := tn_lev h hf m
  have ee : ty_we i' m g p w = ty_we i m g p w := by
    have a0 := hf.2 _ (tn_nt_g (g := g) (c := 0) hg.1 hg.2 (by omega))
    have a2 := hf.2 _ (tn_nt_g (g := g) (c := 2) hg.1 hg.2 (by omega))
    have a3 := hf.2 _ (tn_nt_g (g := g) (c := 3) hg.1 hg.2 (by omega))
    have a4 := hf.2 _ (tn_nt_g (g := g) (c := 4) hg.1 hg.2 (by omega))
    rw [show 120 + 14 * g + 0 = 120 + 14 * g by omega] at a0
    rw [show 120 + 14 * g + 2 = 122 + 14 * g by omega] at a2
    rw [show 120 + 14 * g + 3 = 123 + 14 * g by omega] at a3
    rw [show 120 + 14 * g + 4 = 124 + 14 * g by omega] at a4
    unfold ty_we
    rw [hl, a0, a2, a3, a4, hf.2 (100 + 2 * p) (tn_nt_p (by omega))]
  unfold ty_wish
  rw [ee, tn_sov h hf, tn_fnd h hf, hf.2 (100 + 2 * p) (tn_nt_p (by omega))]
  by_cases h1 : ty_fnd i 1 = -1
  · rw [if_pos h1, if_pos h1]
  · rw [if_neg h1, if_neg h1, tn_vl h hf (ty_fnd_0 h1)]
theorem tn_cho {i i' : MI} (h : ty_Q i) (hf : tn_fp i i') {m g : Int} (hg : 0 ≤ g ∧ g < 10) {u u' : Int → Int} (hu : ∀ p, 0 ≤ p → u' p = u p) : ty_cho i' m u' g = ty_cho i m u g := by
  have h3 := hf.2 3 (tn_nt_lo (by omega))
  have b3 := h.2.2.1.2
  unfold ty_cho
  rw [h3]
  exact ty_pick_c _ _ _ _ (fun x x0 x1 => ⟨hu x x0, hf.2 _ (tn_nt_p (by omega)), fun w => tn_wish h hf hg (by omega) w⟩)
theorem tn_ordf {f : Int → Int} {C : Int} : ∀ (n : Nat) (k : Int), (∀ x, k ≤ x → x < k + n → 0 ≤ f x ∧ f x < C) → ∀ g, g ∈ ty_ordf f n k → 0 ≤ g ∧ g < C
  | 0, _, _, g, hg => by cases hg
  | n + 1, k, h, g, hg => by
    rcases List.mem_cons.mp hg with e | hg
    · rw [e]
      exact h k (by omega) (by omega)
    · exact tn_ordf n (k + 1) (fun x x0 x1 => h x (by omega) (by omega)) g hg
theorem tn_place {i i' : MI} (h : ty_Q i) (hf : tn_fp i i') (m s : Int) : ty_place i' m s = ty_place i m s := by
  have h4 := hf.2 4 (tn_nt_lo (by omega))
  have b4 := h.2.1.2
  have ho : ∀ x : Int, 0 ≤ x → x < i 124 4 → 0 ≤ i 17 x ∧ i 17 x < i 124 4 := h.2.2.2.2.2.1
  unfold ty_place ty_ord
  rw [hf.1 17 (by omega), h4]
  exact ty_sit_c _ _ _ _ (fun v v' hv g hg => by
    have := tn_ordf (i 124 4).toNat 0 (fun x x0 x1 => ho x x0 (by omega)) g hg
    exact tn_cho h hf (by omega) hv) (fun _ _ => rfl)
/-- a place: none, or a perch -/
theorem tn_cho_b {i : MI} {m g : Int} {u : Int → Int} (h3 : 0 ≤ i 124 3) : -1 ≤ ty_cho i m u g ∧ ty_cho i m u g < i 124 3 := by
  unfold ty_cho
  rcases ty_pick_b (W := ty_wish i m g) (u := u) (room := fun p => i 124 (101 + 2 * p)) (i 124 3).toNat 0 (-1) 0 (by omega) (Or.inl rfl) with e | ⟨e1, e2, -⟩
  · rw [e]
    omega
  · omega
theorem tn_sit_b {C : (Int → Int) → Int → Int} {s M : Int} (hC : ∀ u g, -1 ≤ C u g ∧ C u g < M) : ∀ (gs : List Int) (u pl : Int → Int), (∀ x, -1 ≤ pl x ∧ pl x < M) → ∀ x, -1 ≤ ty_sit C s gs u pl x ∧ ty_sit C s gs u pl x < M
  | [], _, _, h, x => h x
  | g :: gs, u, pl, h, x => by
    unfold ty_sit
    by_cases hb : ty_bit s g = true
    · rw [if_pos hb]
      refine tn_sit_b hC gs _ _ (fun y => ?_) x
      show -1 ≤ (if y = g then C u g else pl y) ∧ (if y = g then C u g else pl y) < M
      by_cases e : y = g
      · rw [if_pos e]
        exact hC u g
      · rw [if_neg e]
        exact h y
    · rw [if_neg hb]
      exact tn_sit_b hC gs _ _ h x
theorem tn_place_b {i : MI} (h : ty_Q i) (m s x : Int) : -1 ≤ ty_place i m s x ∧ ty_place i m s x < 8 := by
  have b3 := h.2.2.1.2
  have := tn_sit_b (M := i 124 3) (s := s) (fun u g => tn_cho_b (i := i) (m := m) (g := g) (u := u) b3.1) (ty_ord i) (fun _ => 0) (fun _ => -1) (fun _ => ⟨by omega, by omega⟩) x
  unfold ty_place
  omega
/-- turned to a minute: kept -/
theorem tn_T2 {i i' : MI} {m : Int} (h : ty_T2 i m) (hf : tn_fr i i') : ty_T2 i' m := by
  obtain ⟨hQ, t1, t2, t3, t4, t5⟩ := h
  have b4 := hQ.2.1.2
  have b3 := hQ.2.2.1.2
  refine ⟨tn_Q hQ hf, t1, by rw [hf.1 71 (by omega)]; exact t2, by rw [hf.1 71 (by omega), tn_lev hQ (tn_fp_fr hf)]; exact t3, by rw [hf.1 103 (by omega), hf.1 108 (by omega)]; exact t4, fun g p w g0 g1 p0 p1 w0 w1 he => ?_⟩
  rw [hf.2 4 (tn_nt_lo (by omega))] at g1
  rw [hf.2 3 (tn_nt_lo (by omega))] at p1
  rw [hf.1 103 (by omega), hf.1 108 (by omega)] at he
  rw [hf.1 107 (by omega), tn_wish hQ (tn_fp_fr hf) (by omega) (by omega)]
  exact t5 g p w g0 g1 p0 p1 w0 w1 he
/-- names changed, but not the minute's and the level's -/
theorem tn_T2_71 {i i' : MI} {m : Int} (h : ty_T2 i m) (hc : ty_ch [71, 72] i i') (h0 : i' 71 0 = i 71 0) (h8 : i' 71 8 = i 71 8) : ty_T2 i' m := by
  obtain ⟨hQ, t1, t2, t3, t4, t5⟩ := h
  have r124 := hc 124 (by decide)
  have r103 := hc 103 (by decide)
  have r107 := hc 107 (by decide)
  have r108 := hc 108 (by decide)
  refine ⟨ty_Q_ch hQ hc rfl, t1, by rw [h0]; exact t2, by rw [h8, ty_lev_ch hQ.1.1 hc rfl]; exact t3, by rw [r103, r108]; exact t4, fun g p w g0 g1 p0 p1 w0 w1 he => ?_⟩
  rw [r124] at g1 p1
  rw [r103, r108] at he
  rw [r107, ty_wish_ch hQ.1.1 hc rfl]
  exact t5 g p w g0 g1 p0 p1 w0 w1 he
