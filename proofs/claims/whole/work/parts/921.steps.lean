/-! Steps to the shore. -/
theorem ty_V_ch {S : List Nat} {i i' : MI} (h : ty_V i) (hc : ty_ch S i i') (hS : S.all (fun k => decide (k ≠ 4 ∧ k ≠ 70 ∧ k ≠ 124 ∧ (k < 73 ∨ 103 ≤ k) ∧ (k < 127 ∨ 132 ≤ k))) = true) : ty_V i' := by
  have hm : ∀ k, k ∈ S → k ≠ 4 ∧ k ≠ 70 ∧ k ≠ 124 ∧ (k < 73 ∨ 103 ≤ k) ∧ (k < 127 ∨ 132 ≤ k) := fun k hk => of_decide_eq_true (List.all_eq_true.mp hS k hk)
  have h2 : S.all (fun k => decide (k ≠ 4 ∧ k ≠ 124 ∧ (k < 73 ∨ 103 ≤ k) ∧ (k < 127 ∨ 132 ≤ k))) = true := List.all_eq_true.mpr (fun k hk => decide_eq_true ⟨(hm k hk).1, (hm k hk).2.2⟩)
  have h3 : S.all (fun k => decide (k ≠ 4 ∧ (k < 73 ∨ 103 ≤ k))) = true := List.all_eq_true.mpr (fun k hk => decide_eq_true ⟨(hm k hk).1, (hm k hk).2.2.2.1⟩)
  refine ⟨ty_LW_ch h.1 hc h2, fun m m0 m1 => ?_, ?_, ?_⟩
  · rw [hc 70 (fun hk => (hm _ hk).2.1 rfl), ty_lev_ch h.1 hc h3]
    exact h.2.1 m m0 m1
  · rw [hc 4 (fun hk => (hm _ hk).1 rfl), hc 124 (fun hk => (hm _ hk).2.2.1 rfl)]
    exact h.2.2.1
  · rw [hc 4 (fun hk => (hm _ hk).1 rfl), hc 124 (fun hk => (hm _ hk).2.2.1 rfl)]
    exact h.2.2.2
/-- where one can be: levels, heights, wading -/
def ty_can (lev hgt : Int → Int) (w c t : Int) : Bool := decide (t ≤ 1439) && decide (lev t ≤ hgt c + w)
/-- the cells that k steps may lead to -/
def ty_com (W C a m p : Int) (can : Int → Int → Bool) : Nat → Int → Bool
  | 0, c => decide (c = a)
  | k + 1, c => ty_nb W C (ty_com W C a m p can k) c && can c (m + ((k + 1 : Nat) : Int) * p)
def ty_anyc (f : Int → Bool) : Nat → Bool
  | 0 => false
  | n + 1 => ty_anyc f n || f (n : Int)
theorem ty_anyc_iff {f : Int → Bool} : ∀ {n : Nat}, ty_anyc f n = true ↔ ∃ c : Int, 0 ≤ c ∧ c < n ∧ f c = true
  | 0 => ⟨fun h => absurd h Bool.false_ne_true, fun ⟨c, h0, h1, _⟩ => by omega⟩
  | n + 1 => by
    unfold ty_anyc
    rw [Bool.or_eq_true, ty_anyc_iff]
    constructor
    · rintro (⟨c, h0, h1, h2⟩ | h)
      · exact ⟨c, h0, by omega, h2⟩
      · exact ⟨n, by omega, by omega, h⟩
    · rintro ⟨c, h0, h1, h2⟩
      by_cases hc : c = n
      · rw [hc] at h2
        exact Or.inr h2
      · exact Or.inl ⟨c, h0, by omega, h2⟩
theorem ty_anyc_F {f : Int → Bool} {n : Nat} : ty_anyc f n = false ↔ ∀ c : Int, 0 ≤ c → c < n → f c = false := by
  constructor
  · intro h c c0 c1
    cases hf : f c with
    | false => rfl
    | true => rw [ty_anyc_iff.mpr ⟨c, c0, c1, hf⟩] at h; exact absurd h (by decide)
  · intro h
    cases hf : ty_anyc f n with
    | false => rfl
    | true =>
      obtain ⟨c, c0, c1, hc⟩ := ty_anyc_iff.mp hf
      rw [h c c0 c1] at hc
      exact absurd hc (by decide)
/-- the first from k on -/
def ty_first (P : Nat → Bool) : Nat → Nat → Int
  | 0, _ => -1
  | n + 1, k => if P k = true then (k : Int) else ty_first P n (k + 1)
theorem ty_first_none {P : Nat → Bool} : ∀ (n k : Nat), (∀ j, k ≤ j → P j = false) → ty_first P n k = -1
  | 0, _, _ => rfl
  | n + 1, k, h => by
    unfold ty_first
    rw [h k (Nat.le_refl k), if_neg (by decide)]
    exact ty_first_none n (k + 1) (fun j hj => h j (by omega))
theorem ty_first_b {P : Nat → Bool} : ∀ (n k : Nat), ty_first P n k = -1 ∨ ∃ j : Nat, ty_first P n k = (j : Int) ∧ k ≤ j ∧ j < k + n ∧ P j = true
  | 0, _ => Or.inl rfl
  | n + 1, k => by
    unfold ty_first
    by_cases h : P k = true
    · rw [if_pos h]
      exact Or.inr ⟨k, rfl, Nat.le_refl _, by omega, h⟩
    · rw [if_neg h]
      rcases ty_first_b n (k + 1) with h2 | ⟨j, h2, h3, h4, h5⟩
      · exact Or.inl h2
      · exact Or.inr ⟨j, h2, by omega, by omega, h5⟩
/-- no cell after k steps: none after more -/
theorem ty_com_none {W H a m p : Int} {can : Int → Int → Bool} (hW : 2 ≤ W ∧ W ≤ 6) {k : Nat} (h : ∀ c, 0 ≤ c → c < W * H → ty_com W (W * H) a m p can k c = false) : ∀ n : Nat, ∀ c, 0 ≤ c → c < W * H → ty_com W (W * H) a m p can (k + n) c = false
  | 0, c, c0, c1 => h c c0 c1
  | n + 1, c, c0, c1 => by
    show (ty_nb W (W * H) (ty_com W (W * H) a m p can (k + n)) c && _) = false
    have hn : ty_nb W (W * H) (ty_com W (W * H) a m p can (k + n)) c = false := by
      cases hx : ty_nb W (W * H) (ty_com W (W * H) a m p can (k + n)) c with
      | false => rfl
      | true =>
        obtain ⟨e, he, hf⟩ := ty_nb_adj.mp hx
        have hb := (ty_adj_s hW ⟨c0, c1⟩ he).1
        rw [ty_com_none hW h n e hb.1 hb.2] at hf
        exact absurd hf (by decide)
    rw [hn, Bool.false_and]
/-- does a shore lie among the cells after k steps -/
def ty_ash (W C a m p : Int) (can : Int → Int → Bool) (sh : Int → Bool) (k : Nat) : Bool := ty_anyc (fun c => ty_com W C a m p can k c && sh c) C.toNat
def ty_steps (W C a m p : Int) (can : Int → Int → Bool) (sh : Int → Bool) : Int := ty_first (ty_ash W C a m p can sh) (C.toNat + 1) 0
theorem ty_kp {k p : Int} (hk : 0 ≤ k ∧ k ≤ 36) (hp : 1 ≤ p ∧ p ≤ 20) : 0 ≤ k * p ∧ k * p ≤ 720 := by
  have h1 := Int.mul_le_mul hk.2 hp.2 (by omega) (by omega)
  have h2 := Int.mul_nonneg hk.1 (show 0 ≤ p by omega)
  omega
section TYST
variable {L t : Nat} {r : MR}
/-- all levels -/
theorem ty_207 (hr : px_hr r) (d : Nat) : ∀ (n : Nat) (i l : MI) (k : Int), ty_V i → 0 ≤ k → k + n = 1440 → ∃ i1 l1 : MI, px_X (d + 4 + 1) 207 (2, [vR 123, vI k], []) (px_sh L, i, l, r, t) = some (none, (px_sh L, i1, l1, r, t)) ∧ ty_ch [140, 146] i i1 ∧ ty_ch [141] l l1 ∧ ty_V i1 ∧ (∀ x : Int, k ≤ x → x < 1440 → i1 146 x = ty_lev i x) ∧ ∀ x : Int, x < k → i1 146 x = i 146 x
  | 0, i, l, k, hV, h0, hn => by
    exact ⟨i, l, by rw [b207_2 hr, if_pos (by omega)], ty_ch_rf, ty_ch_rf, hV, fun x _ _ => by omega, fun _ _ => rfl⟩
  | n + 1, i, l, k, hV, h0, hn => by
    have w : px_w32 (k + 1) = k + 1 := ty_w (by omega)
    obtain ⟨i1, l1, e, c, cl, -, v1⟩ := q192 (L := L) (t := t) hr d i l k hV (by omega)
    have cu : ty_ch [146] i1 (px_up i1 146 k (ty_lev i k)) := ty_ch_up (by decide)
    have c2 : ty_ch [140, 146] i (px_up i1 146 k (ty_lev i k)) := ty_ch_tr c cu rfl rfl
    obtain ⟨i2, l2, e2, c3, cl2, v2, h2, h3⟩ := ty_207 hr d n (px_up i1 146 k (ty_lev i k)) l1 (k + 1) (ty_V_ch v1 cu rfl) (by omega) (by omega)
    refine ⟨i2, l2, ?_, ty_ch_tr c2 c3 rfl rfl, ty_ch_tr cl cl2 rfl rfl, v2, fun x x0 x1 => ?_, fun x hx => ?_⟩
    · rw [b207_2 hr, if_neg (by omega), e, Option.bind_some, px_psh_some, b207_19 hr _ _ _ _ _ _ (by omega), w, e2]
    · by_cases hk : x = k
      · rw [hk, h3 k (by omega), ty_up_eq]
      · rw [h2 x (by omega) x1, ty_lev_ch hV.1 c2 rfl]
    · rw [h3 x (by omega), ty_up_j (by omega), c 146 (by decide)]
theorem q207 (hr : px_hr r) (d : Nat) (i l : MI) (hV : ty_V i) : ∃ i1 l1 : MI, px_C (d + 4 + 1) 207 [vR 123] (px_sh L, i, l, r, t) = some (none, (px_sh L, i1, l1, r, t)) ∧ ty_ch [140, 146] i i1 ∧ ty_ch [141] l l1 ∧ ty_V i1 ∧ ∀ x : Int, 0 ≤ x → x < 1440 → i1 146 x = ty_lev i x := by
  obtain ⟨i1, l1, e, c, cl, v, h, -⟩ := ty_207 (L := L) (t := t) hr d 1440 i l 0 hV (by omega) (by omega)
  exact ⟨i1, l1, by rw [e207, b207_0 hr, e], c, cl, v, h⟩
theorem q209 (hr : px_hr r) (d : Nat) (i l : MI) (c : Int) (hc : 0 ≤ c ∧ c < 36) : px_C d 209 [vR 123, vI c] (px_sh L, i, l, r, t) = some (some (vI (ty_b (decide (i 124 (21 + 2 * c) = 1)))), (px_sh L, i, l, r, t)) := by
  have w : px_w32 (px_w32 (20 + px_w32 (2 * c)) + 1) = 21 + 2 * c := by rw [ty_w (x := 2 * c) (by omega), ty_w (x := 20 + 2 * c) (by omega), ty_w (by omega)]; omega
  rw [e209, b209_0 hr _ _ _ _ (by rw [w]; omega), w]
  by_cases h : i 124 (21 + 2 * c) = 1
  · rw [if_pos h, decide_eq_true h]
    rfl
  · rw [if_neg h, decide_eq_false h]
    rfl
theorem q208 (hr : px_hr r) (d : Nat) (i l : MI) (lev hgt : Int → Int) (w g c x : Int) (hg : 0 ≤ g ∧ g < 10) (hc : 0 ≤ c ∧ c < 36) (hx : 0 ≤ x) (hl : ∀ x, 0 ≤ x → x < 1440 → i 146 x = lev x) (hh : i 124 (20 + 2 * c) = hgt c ∧ 0 ≤ hgt c ∧ hgt c ≤ 99) (hw : i 124 (120 + 14 * g + 6) = w ∧ 0 ≤ w ∧ w ≤ 30) :
    px_C (d + 1) 208 [vR 123, vI g, vI c, vI x] (px_sh L, i, l, r, t) = some (some (vI (ty_b (ty_can lev hgt w c x))), (px_sh L, i, l, r, t)) := by
  have e1 : px_w32 (20 + px_w32 (2 * c)) = 20 + 2 * c := by rw [ty_w (x := 2 * c) (by omega), ty_w (by omega)]
  have e2 : px_w32 (hgt c + w) = hgt c + w := ty_w (by omega)
  rw [e208, b208_0 hr _ _ _ _ _ _ (fun _ => by omega) (fun _ => by rw [e1]; omega)]
  unfold ty_can
  by_cases h : 1439 < x
  · rw [if_pos h, decide_eq_false (by omega)]
    rfl
  · rw [if_neg h, decide_eq_true (by omega), Bool.true_and, q146 hr _ _ _ _ _ hg (by omega), Option.bind_some, px_psh_some, e1, hh.1, hw.1, hl x hx (by omega), b208_31 hr, e2]
    by_cases h2 : lev x ≤ hgt c + w
    · rw [if_neg (by omega), decide_eq_true h2]
      rfl
    · rw [if_pos (by omega), decide_eq_false h2]
      rfl
/-- one side -/
theorem ty_211_s (hr : px_hr r) (d : Nat) (i l : MI) (hW : 2 ≤ i 123 0 ∧ i 123 0 ≤ 6) (hH : 2 ≤ i 123 1 ∧ i 123 1 ≤ 6) (hC : i 123 2 = i 123 0 * i 123 1) (hC36 : i 123 2 ≤ 36) (x1 x2 k x4 x5 c s : Int) (hk : 1 ≤ k ∧ k ≤ 36) (hc : 0 ≤ c ∧ c < i 123 2) (hs : s = 0 ∨ s = 1 ∨ s = 2 ∨ s = 3) (u : Bool) (f : Int → Bool) (hf : ∀ e : Int, 0 ≤ e → e < i 123 2 → i 147 (36 * (k - 1) + e) = ty_b (f e)) {v9 : PV} (hn9 : px_nl v9) :
    ∃ v9' : PV, px_nl v9' ∧ px_X (d + 1 + 1) 211 (95, [vR 123, vI x1, vI x2, vI k, vI x4, vI x5, vI c, vI (ty_b u), vI s, v9], []) (px_sh L, i, l, r, t) =
      px_X (d + 1 + 1) 211 (95, [vR 123, vI x1, vI x2, vI k, vI x4, vI x5, vI c, vI (ty_b (u || (decide (¬ ty_bes (i 123 0) (i 123 2) c s = -1) && f (ty_bes (i 123 0) (i 123 2) c s)))), vI (s + 1), v9'], []) (px_sh L, i, l, r, t) := by
  have w1 : px_w32 (s + 1) = s + 1 := ty_w (by omega)
  have w2 : px_w32 (k - 1) = k - 1 := ty_w (by omega)
  have w3 : px_w32 (36 * (k - 1)) = 36 * (k - 1) := ty_w (by omega)
  have hb := ty_bes_b (c := c) (s := s) hW (by rw [← hC]; exact hc)
  rw [← hC] at hb
  obtain ⟨e, he⟩ : ∃ e : Int, e = ty_bes (i 123 0) (i 123 2) c s := ⟨_, rfl⟩
  rw [← he] at hb ⊢
  refine ⟨vI e, px_nl_I _, ?_⟩
  have w4 : (¬ e = -1) → px_w32 (36 * (k - 1) + e) = 36 * (k - 1) + e := fun h => ty_w (by omega)
  rw [b211_95 hr _ _ _ _ _ _ _ _ _ _ _ hn9, if_neg (by omega), q210 hr _ _ _ _ _ hW hH hC hc hs, ← he, Option.bind_some, px_psh_some, b211_109 hr _ _ _ _ _ _ _ _ _ _ _ hn9 _ (fun _ h => by rw [w2, w3, w4 h]; omega), w1, w2, w3]
  cases u with
  | true =>
    rw [if_neg (show ¬ ty_b true = 0 by decide), Bool.true_or]
    rfl
  | false =>
    rw [if_pos (show ty_b false = 0 from rfl), Bool.false_or]
    by_cases h : e = -1
    · rw [if_pos h, decide_eq_false (fun q => q h)]
      rfl
    · rw [if_neg h, decide_eq_true h, Bool.true_and, w4 h, hf e (by omega) (by omega)]
      cases f e with
      | false => rw [if_pos (show ty_b false = 0 from rfl)]; rfl
      | true => rw [if_neg (show ¬ ty_b true = 0 by decide)]; rfl
/-- all sides -/
theorem ty_211_4 (hr : px_hr r) (d : Nat) (i l : MI) (hW : 2 ≤ i 123 0 ∧ i 123 0 ≤ 6) (hH : 2 ≤ i 123 1 ∧ i 123 1 ≤ 6) (hC : i 123 2 = i 123 0 * i 123 1) (hC36 : i 123 2 ≤ 36) (x1 x2 k x4 x5 c : Int) (hk : 1 ≤ k ∧ k ≤ 36) (hc : 0 ≤ c ∧ c < i 123 2) (f : Int → Bool) (hf : ∀ e : Int, 0 ≤ e → e < i 123 2 → i 147 (36 * (k - 1) + e) = ty_b (f e)) {v9 : PV} (hn9 : px_nl v9) :
    ∃ v9' : PV, px_nl v9' ∧ px_X (d + 1 + 1) 211 (95, [vR 123, vI x1, vI x2, vI k, vI x4, vI x5, vI c, vI 0, vI 0, v9], []) (px_sh L, i, l, r, t) =
      px_X (d + 1 + 1) 211 (95, [vR 123, vI x1, vI x2, vI k, vI x4, vI x5, vI c, vI (ty_b (ty_nb (i 123 0) (i 123 2) f c)), vI 4, v9'], []) (px_sh L, i, l, r, t) := by
  obtain ⟨a0, n0, e0⟩ := ty_211_s (L := L) (t := t) hr d i l hW hH hC hC36 x1 x2 k x4 x5 c 0 hk hc (by omega) false f hf hn9
  obtain ⟨a1, n1, e1⟩ := ty_211_s (L := L) (t := t) hr d i l hW hH hC hC36 x1 x2 k x4 x5 c 1 hk hc (by omega) (false || (decide (¬ ty_bes (i 123 0) (i 123 2) c 0 = -1) && f (ty_bes (i 123 0) (i 123 2) c 0))) f hf n0
  obtain ⟨a2, n2, e2⟩ := ty_211_s (L := L) (t := t) hr d i l hW hH hC hC36 x1 x2 k x4 x5 c 2 hk hc (by omega) ((false || (decide (¬ ty_bes (i 123 0) (i 123 2) c 0 = -1) && f (ty_bes (i 123 0) (i 123 2) c 0))) || (decide (¬ ty_bes (i 123 0) (i 123 2) c 1 = -1) && f (ty_bes (i 123 0) (i 123 2) c 1))) f hf n1
  obtain ⟨a3, n3, e3⟩ := ty_211_s (L := L) (t := t) hr d i l hW hH hC hC36 x1 x2 k x4 x5 c 3 hk hc (by omega) (((false || (decide (¬ ty_bes (i 123 0) (i 123 2) c 0 = -1) && f (ty_bes (i 123 0) (i 123 2) c 0))) || (decide (¬ ty_bes (i 123 0) (i 123 2) c 1 = -1) && f (ty_bes (i 123 0) (i 123 2) c 1))) || (decide (¬ ty_bes (i 123 0) (i 123 2) c 2 = -1) && f (ty_bes (i 123 0) (i 123 2) c 2))) f hf n2
  refine ⟨a3, n3, ?_⟩
  rw [ty_nb_bes hW hc.1]
  exact (show _ = _ from e0).trans (e1.trans (e2.trans e3))
/-- the cells of a step -/
theorem ty_211_c (hr : px_hr r) (d : Nat) (l : MI) (lev hgt : Int → Int) (sh : Int → Bool) (w g x2 k x5 : Int) (hk : 1 ≤ k ∧ k ≤ 36) (hg : 0 ≤ g ∧ g < 10) (hx : 0 ≤ x5) (f : Int → Bool) : ∀ (n : Nat) (i : MI) (c : Int) (sf : Bool) (v7 v8 v9 : PV),
    (2 ≤ i 123 0 ∧ i 123 0 ≤ 6) → (2 ≤ i 123 1 ∧ i 123 1 ≤ 6) → i 123 2 = i 123 0 * i 123 1 → i 123 2 ≤ 36 → (∀ e : Int, 0 ≤ e → e < i 123 2 → i 147 (36 * (k - 1) + e) = ty_b (f e)) → (∀ x, 0 ≤ x → x < 1440 → i 146 x = lev x) → (∀ c, 0 ≤ c → c < i 123 2 → i 124 (20 + 2 * c) = hgt c ∧ 0 ≤ hgt c ∧ hgt c ≤ 99) → (i 124 (120 + 14 * g + 6) = w ∧ 0 ≤ w ∧ w ≤ 30) → (∀ c, 0 ≤ c → c < i 123 2 → decide (i 124 (21 + 2 * c) = 1) = sh c) →
    px_nl v7 → px_nl v8 → px_nl v9 → 0 ≤ c → c + n = i 123 2 →
    ∃ (i1 : MI) (sf' : Bool) (v7' v8' v9' : PV), px_X (d + 1 + 1) 211 (80, [vR 123, vI g, vI x2, vI k, vI (ty_b sf), vI x5, vI c, v7, v8, v9], []) (px_sh L, i, l, r, t) = px_X (d + 1 + 1) 211 (80, [vR 123, vI g, vI x2, vI k, vI (ty_b sf'), vI x5, vI (i 123 2), v7', v8', v9'], []) (px_sh L, i1, l, r, t) ∧
      px_nl v7' ∧ px_nl v8' ∧ px_nl v9' ∧ ty_ch [147] i i1 ∧ (∀ e, c ≤ e → e < i 123 2 → i1 147 (36 * k + e) = ty_b (ty_nb (i 123 0) (i 123 2) f e && ty_can lev hgt w e x5)) ∧ (∀ x, ¬ (36 * k + c ≤ x ∧ x < 36 * k + i 123 2) → i1 147 x = i 147 x) ∧
      (sf' = true ↔ sf = true ∨ ∃ e, c ≤ e ∧ e < i 123 2 ∧ ((ty_nb (i 123 0) (i 123 2) f e && ty_can lev hgt w e x5) && sh e) = true)
  | 0, i, c, sf, v7, v8, v9, hW, hH, hC, hC36, hf, hl, hh, hw, hsh, n7, n8, n9, h0, hn => by
    have hcC : c = i 123 2 := by omega
    rw [hcC]
    exact ⟨i, sf, v7, v8, v9, rfl, n7, n8, n9, ty_ch_rf, fun e _ _ => by omega, fun _ _ => rfl, ⟨fun h => Or.inl h, fun h => by
      rcases h with h | ⟨e, h1, h2, _⟩
      · exact h
      · omega⟩⟩
  | n + 1, i, c, sf, v7, v8, v9, hW, hH, hC, hC36, hf, hl, hh, hw, hsh, n7, n8, n9, h0, hn => by
    have hc : 0 ≤ c ∧ c < i 123 2 := by omega
    have w1 : px_w32 (36 * k) = 36 * k := ty_w (by omega)
    have w2 : px_w32 (36 * k + c) = 36 * k + c := ty_w (by omega)
    have w3 : px_w32 (c + 1) = c + 1 := ty_w (by omega)
    obtain ⟨a9, m9, e4⟩ := ty_211_4 (L := L) (t := t) hr d i l hW hH hC hC36 g x2 k (ty_b sf) x5 c hk hc f hf n9
    obtain ⟨v, hv⟩ : ∃ v : Bool, v = (ty_nb (i 123 0) (i 123 2) f c && ty_can lev hgt w c x5) := ⟨_, rfl⟩
    have e166 : px_X (d + 1 + 1) 211 (95, [vR 123, vI g, vI x2, vI k, vI (ty_b sf), vI x5, vI c, vI (ty_b (ty_nb (i 123 0) (i 123 2) f c)), vI 4, a9], []) (px_sh L, i, l, r, t) = px_X (d + 1 + 1) 211 (174, [vR 123, vI g, vI x2, vI k, vI (ty_b sf), vI x5, vI c, vI (ty_b (ty_nb (i 123 0) (i 123 2) f c)), vI 4, a9], [vI (ty_b v)]) (px_sh L, i, l, r, t) := by
      rw [b211_95 hr _ _ _ _ _ _ _ _ _ _ _ m9, if_pos (by omega), hv]
      cases ty_nb (i 123 0) (i 123 2) f c with
      | false => rw [if_pos (show ty_b false = 0 from rfl), b211_173 hr _ _ _ _ _ _ _ _ _ _ _ m9, Bool.false_and]; rfl
      | true =>
        rw [if_neg (show ¬ ty_b true = 0 by decide), q208 hr _ _ _ lev hgt w g c x5 hg (by omega) hx hl (hh c hc.1 hc.2) hw, Option.bind_some, px_psh_some, b211_166 hr _ _ _ _ _ _ _ _ _ _ _ m9, Bool.true_and]
        cases ty_can lev hgt w c x5 with
        | false => rw [if_pos (show ty_b false = 0 from rfl), b211_173 hr _ _ _ _ _ _ _ _ _ _ _ m9]; rfl
        | true => rw [if_neg (show ¬ ty_b true = 0 by decide)]; rfl
    obtain ⟨j, hj⟩ : ∃ j : MI, j = px_up i 147 (36 * k + c) (ty_b v) := ⟨_, rfl⟩
    have jr : ∀ q, q ≠ 147 → j q = i q := fun q hq => by rw [hj, ty_up_row hq]
    have j123 := jr 123 (by omega)
    have j124 := jr 124 (by omega)
    have e80 : px_X (d + 1 + 1) 211 (174, [vR 123, vI g, vI x2, vI k, vI (ty_b sf), vI x5, vI c, vI (ty_b (ty_nb (i 123 0) (i 123 2) f c)), vI 4, a9], [vI (ty_b v)]) (px_sh L, i, l, r, t) = px_X (d + 1 + 1) 211 (80, [vR 123, vI g, vI x2, vI k, vI (ty_b (sf || (v && sh c))), vI x5, vI (c + 1), vI (ty_b v), vI 4, a9], []) (px_sh L, j, l, r, t) := by
      rw [b211_174 hr _ _ _ _ _ _ _ _ _ _ _ m9 _ (by rw [w1, w2]; omega) (ty_b_01 v), w1, w2, w3, ← hj]
      cases sf with
      | true => rw [if_neg (show ¬ ty_b true = 0 by decide), Bool.true_or]; rfl
      | false =>
        rw [if_pos (show ty_b false = 0 from rfl), Bool.false_or]
        cases v with
        | false => rw [if_pos (show ty_b false = 0 from rfl), Bool.false_and]; rfl
        | true =>
          rw [if_neg (show ¬ ty_b true = 0 by decide), q209 hr _ _ _ _ (by omega), Option.bind_some, px_psh_some, b211_206 hr _ _ _ _ _ _ _ _ _ _ _ m9, w3, j124, hsh c hc.1 hc.2, Bool.true_and]
          cases sh c with
          | false => rw [if_pos (show ty_b false = 0 from rfl)]; rfl
          | true => rw [if_neg (show ¬ ty_b true = 0 by decide)]; rfl
    obtain ⟨i1, sf', v7', v8', v9', e, m7, m8, m9', cc, hnew, hold, hsf⟩ := ty_211_c hr d l lev hgt sh w g x2 k x5 hk hg hx f n j (c + 1) (sf || (v && sh c)) (vI (ty_b v)) (vI 4) a9 (by rw [j123]; exact hW) (by rw [j123]; exact hH) (by rw [j123]; exact hC) (by rw [j123]; exact hC36)
      (fun e e0 e1 => by rw [j123] at e1; rw [hj, ty_up_j (by omega)]; exact hf e e0 e1) (fun x x0 x1 => by rw [jr 146 (by omega)]; exact hl x x0 x1) (fun c c0 c1 => by rw [j123] at c1; rw [j124]; exact hh c c0 c1) (by rw [j124]; exact hw) (fun c c0 c1 => by rw [j123] at c1; rw [j124]; exact hsh c c0 c1) (px_nl_I _) (px_nl_I _) m9 (by omega) (by rw [j123]; omega)
    rw [j123] at e hnew hold hsf
    refine ⟨i1, sf', v7', v8', v9', ?_, m7, m8, m9', ty_ch_tr (by rw [hj]; exact ty_ch_up (S := [147]) (by decide)) cc rfl rfl, fun e e0 e1 => ?_, fun x hx => ?_, ?_⟩
    · rw [b211_80 hr _ _ _ _ _ _ _ _ _ n7 n8 n9, if_neg (by omega), e4, e166, e80, e]
    · by_cases hec : e = c
      · rw [hec, hold _ (by omega), hj, ty_up_eq, hv]
      · exact hnew e (by omega) e1
    · rw [hold x (by omega), hj, ty_up_j (by omega)]
    · rw [hsf, Bool.or_eq_true]
      constructor
      · rintro ((h | h) | ⟨e, h1, h2, h3⟩)
        · exact Or.inl h
        · rw [hv] at h
          exact Or.inr ⟨c, by omega, by omega, h⟩
        · exact Or.inr ⟨e, by omega, h2, h3⟩
      · rintro (h | ⟨e, h1, h2, h3⟩)
        · exact Or.inl (Or.inl h)
        · by_cases hec : e = c
          · rw [hec, ← hv] at h3
            exact Or.inl (Or.inr h3)
          · exact Or.inr ⟨e, by omega, h2, h3⟩
/-- the reference's bank and guest for steps -/
def ty_RS (i : MI) (lev hgt : Int → Int) (sh : Int → Bool) (w p a g : Int) : Prop :=
  (2 ≤ i 123 0 ∧ i 123 0 ≤ 6) ∧ (2 ≤ i 123 1 ∧ i 123 1 ≤ 6) ∧ i 123 2 = i 123 0 * i 123 1 ∧ (4 ≤ i 123 2 ∧ i 123 2 ≤ 36) ∧ (0 ≤ g ∧ g < 10) ∧ (∀ x, 0 ≤ x → x < 1440 → i 146 x = lev x) ∧ (∀ c, 0 ≤ c → c < i 123 2 → i 124 (20 + 2 * c) = hgt c ∧ 0 ≤ hgt c ∧ hgt c ≤ 99) ∧ (i 124 (120 + 14 * g + 6) = w ∧ 0 ≤ w ∧ w ≤ 30) ∧ (∀ c, 0 ≤ c → c < i 123 2 → decide (i 124 (21 + 2 * c) = 1) = sh c) ∧ (i 124 (120 + 14 * g + 5) = p ∧ 1 ≤ p ∧ p ≤ 20) ∧ (i 124 0 = a ∧ 0 ≤ a ∧ a < i 123 2)
theorem ty_RS_c {i i' : MI} {lev hgt : Int → Int} {sh : Int → Bool} {w p a g : Int} (h3 : i' 123 = i 123) (h4 : i' 124 = i 124) (h6 : i' 146 = i 146) (h : ty_RS i lev hgt sh w p a g) : ty_RS i' lev hgt sh w p a g := by
  unfold ty_RS at h ⊢
  rw [h3, h4, h6]
  exact h
theorem ty_211_k (hr : px_hr r) (d : Nat) (l : MI) (lev hgt : Int → Int) (sh : Int → Bool) (w p a g m : Int) (hm : 0 ≤ m ∧ m < 1440) (W C : Int) : ∀ (n : Nat) (i : MI) (k : Nat) (v4 v5 v6 v7 v8 v9 : PV), ty_RS i lev hgt sh w p a g → i 123 0 = W → i 123 2 = C → 1 ≤ k → (k : Int) + n = C + 1 → (∀ j : Nat, j < k → ∀ e, 0 ≤ e → e < C → i 147 (36 * (j : Int) + e) = ty_b (ty_com W C a m p (ty_can lev hgt w) j e)) → px_nl v4 → px_nl v5 → px_nl v6 → px_nl v7 → px_nl v8 → px_nl v9 →
    ∃ i1 : MI, px_X (d + 1 + 1) 211 (54, [vR 123, vI g, vI m, vI k, v4, v5, v6, v7, v8, v9], []) (px_sh L, i, l, r, t) = some (some (vI (ty_first (ty_ash W C a m p (ty_can lev hgt w) sh) n k)), (px_sh L, i1, l, r, t)) ∧ ty_ch [147] i i1 ∧
      ∀ j : Nat, (j : Int) ≤ ty_first (ty_ash W C a m p (ty_can lev hgt w) sh) n k → ∀ e, 0 ≤ e → e < C → i1 147 (36 * (j : Int) + e) = ty_b (ty_com W C a m p (ty_can lev hgt w) j e)
  | 0, i, k, v4, v5, v6, v7, v8, v9, hS, hW0, hC0, hk, hn, hrow, n4, n5, n6, n7, n8, n9 => by
    refine ⟨i, ?_, ty_ch_rf, fun j hj => ?_⟩
    · rw [b211_54 hr _ _ _ _ _ _ n4 n5 n6 n7 n8 n9, if_pos (by omega)]
      rfl
    · have : ty_first (ty_ash W C a m p (ty_can lev hgt w) sh) 0 k = -1 := rfl
      omega
  | n + 1, i, k, v4, v5, v6, v7, v8, v9, hS, hW0, hC0, hk, hn, hrow, n4, n5, n6, n7, n8, n9 => by
    have hS' := hS
    obtain ⟨hW, hH, hC, hCb, hg, hl, hh, hw, hsh, hp, ha⟩ := hS
    obtain ⟨k', rfl⟩ : ∃ k', k = k' + 1 := ⟨k - 1, by omega⟩
    obtain ⟨K, hK⟩ : ∃ K : Int, K = ((k' + 1 : Nat) : Int) := ⟨_, rfl⟩
    have hK1 : K = (k' : Int) + 1 := by omega
    have hKb : 1 ≤ K ∧ K ≤ 36 := by omega
    have hkp := ty_kp (k := K) (p := p) (by omega) hp.2
    obtain ⟨T, hT⟩ : ∃ T : Int, T = m + K * p := ⟨_, rfl⟩
    have hT0 : 0 ≤ T := by omega
    have w1 : px_w32 (K * p) = K * p := ty_w (by omega)
    have w2 : px_w32 (m + K * p) = T := by rw [ty_w (by omega)]; exact hT.symm
    have w3 : px_w32 (K + 1) = ((k' + 1 + 1 : Nat) : Int) := by rw [ty_w (by omega)]; omega
    have hcm : ∀ c, ty_com W C a m p (ty_can lev hgt w) (k' + 1) c = (ty_nb W C (ty_com W C a m p (ty_can lev hgt w) k') c && ty_can lev hgt w c T) := fun c => by
      rw [hT, hK]
      rfl
    rw [← hK]
    clear hkp
    obtain ⟨i1, sf, b7, b8, b9, e, m7, m8, m9, cc, hnew, hold, hsf⟩ := ty_211_c (L := L) (t := t) hr d l lev hgt sh w g m K T hKb hg hT0 (ty_com W C a m p (ty_can lev hgt w) k') (i 123 2).toNat i 0 false v7 v8 v9 hW hH hC hCb.2
      (fun e e0 e1 => by
        have h := hrow k' (by omega) e e0 (by omega)
        rw [show 36 * (K - 1) + e = 36 * (k' : Int) + e by omega]
        exact h) hl hh hw hsh n7 n8 n9 (by omega) (by omega)
    have hP : sf = ty_ash W C a m p (ty_can lev hgt w) sh (k' + 1) := by
      have h1 : ty_ash W C a m p (ty_can lev hgt w) sh (k' + 1) = true ↔ sf = true := by
        rw [hsf]
        unfold ty_ash
        rw [ty_anyc_iff]
        constructor
        · rintro ⟨c, c0, c1, hc⟩
          refine Or.inr ⟨c, c0, by omega, ?_⟩
          rw [hW0, hC0, ← hcm]
          exact hc
        · rintro (h | ⟨c, c0, c1, hc⟩)
          · exact absurd h (by decide)
          · rw [hW0, hC0, ← hcm] at hc
            exact ⟨c, c0, by omega, hc⟩
      cases sf <;> cases h2 : ty_ash W C a m p (ty_can lev hgt w) sh (k' + 1)
      · rfl
      · exact absurd (h1.mp h2) (by decide)
      · rw [h1.mpr rfl] at h2
        exact absurd h2 (by decide)
      · rfl
    have hrow' : ∀ j : Nat, j < k' + 1 + 1 → ∀ e, 0 ≤ e → e < C → i1 147 (36 * (j : Int) + e) = ty_b (ty_com W C a m p (ty_can lev hgt w) j e) := fun j hj e e0 e1 => by
      by_cases hjk : j = k' + 1
      · rw [hjk, ← hK, hnew e e0 (by omega), hW0, hC0, ← hcm]
      · rw [hold _ (by omega)]
        exact hrow j (by omega) e e0 e1
    have hgo : px_X (d + 1 + 1) 211 (54, [vR 123, vI g, vI m, vI K, v4, v5, v6, v7, v8, v9], []) (px_sh L, i, l, r, t) = px_X (d + 1 + 1) 211 (80, [vR 123, vI g, vI m, vI K, vI (ty_b sf), vI T, vI (i 123 2), b7, b8, b9], []) (px_sh L, i1, l, r, t) := by
      rw [b211_54 hr _ _ _ _ _ _ n4 n5 n6 n7 n8 n9, if_neg (by omega), q146 hr _ _ _ _ _ hg (by omega), Option.bind_some, px_psh_some, hp.1, b211_73 hr _ _ _ _ _ _ _ n5 n6 n7 n8 n9, w1, w2]
      exact e
    have i123 := cc 123 (by decide)
    unfold ty_first
    rw [← hP]
    cases sf with
    | true =>
      rw [if_pos rfl]
      refine ⟨i1, ?_, cc, fun j hj e e0 e1 => hrow' j (by omega) e e0 e1⟩
      rw [hgo, b211_80 hr _ _ _ _ _ _ _ _ _ m7 m8 m9, i123, if_pos (by omega), if_neg (show ¬ ty_b true = 0 by decide), hK]
    | false =>
      rw [if_neg (by decide)]
      obtain ⟨i2, e2, c2, h2⟩ := ty_211_k hr d l lev hgt sh w p a g m hm W C n i1 (k' + 1 + 1) (vI (ty_b false)) (vI T) (vI (i 123 2)) b7 b8 b9 (ty_RS_c i123 (cc 124 (by decide)) (cc 146 (by decide)) hS') (by rw [i123, hW0]) (by rw [i123, hC0]) (by omega) (by omega) hrow' (px_nl_I _) (px_nl_I _) (px_nl_I _) m7 m8 m9
      refine ⟨i2, ?_, ty_ch_tr cc c2 rfl rfl, h2⟩
      rw [hgo, b211_80 hr _ _ _ _ _ _ _ _ _ m7 m8 m9, i123, if_pos (by omega), if_pos (show ty_b false = 0 from rfl), w3, e2]
theorem ty_211_0 (hr : px_hr r) (d : Nat) (l : MI) (g m : Int) : ∀ (n : Nat) (i : MI) (c : Int), (0 ≤ i 123 2 ∧ i 123 2 ≤ 36) → 0 ≤ c → c + n = i 123 2 → ∃ i1 : MI, px_X (d + 1 + 1) 211 (17, [vR 123, vI g, vI m, vI c, vJ, vJ, vJ, vJ, vJ, vJ], []) (px_sh L, i, l, r, t) = px_X (d + 1 + 1) 211 (54, [vR 123, vI g, vI m, vI 1, vJ, vJ, vJ, vJ, vJ, vJ], []) (px_sh L, i1, l, r, t) ∧ ty_ch [147] i i1 ∧ (∀ e, c ≤ e → e < i 123 2 → i1 147 e = ty_b (decide (e = i 124 0))) ∧ ∀ e, ¬ (c ≤ e ∧ e < i 123 2) → i1 147 e = i 147 e
  | 0, i, c, hb, h0, hn => by
    exact ⟨i, by rw [b211_17 hr _ _ _ _ _ _ (fun h => absurd (by omega) h) (fun h => absurd (by omega) h), if_pos (by omega)], ty_ch_rf, fun e _ _ => by omega, fun _ _ => rfl⟩
  | n + 1, i, c, hb, h0, hn => by
    have w1 : px_w32 (c + 1) = c + 1 := ty_w (by omega)
    obtain ⟨j, hj⟩ : ∃ j : MI, j = px_up i 147 c (ty_b (decide (c = i 124 0))) := ⟨_, rfl⟩
    have jr : ∀ q, q ≠ 147 → j q = i q := fun q hq => by rw [hj, ty_up_row hq]
    obtain ⟨i1, e, cc, hnew, hold⟩ := ty_211_0 hr d l g m n j (c + 1) (by rw [jr 123 (by omega)]; exact hb) (by omega) (by rw [jr 123 (by omega)]; omega)
    rw [jr 123 (by omega), jr 124 (by omega)] at hnew
    rw [jr 123 (by omega)] at hold
    refine ⟨i1, ?_, ty_ch_tr (by rw [hj]; exact ty_ch_up (S := [147]) (by decide)) cc rfl rfl, fun e e0 e1 => ?_, fun e he => by rw [hold e (by omega), hj, ty_up_j (by omega)]⟩
    · rw [b211_17 hr _ _ _ _ _ _ (fun _ _ => by omega) (fun _ _ => by omega), if_neg (by omega), w1]
      by_cases hc : c = i 124 0
      · rw [decide_eq_true hc] at hj
        rw [if_pos hc, show (px_up i 147 c 1) = j from hj.symm, e]
      · rw [decide_eq_false hc] at hj
        rw [if_neg hc, show (px_up i 147 c 0) = j from hj.symm, e]
    · by_cases hec : e = c
      · rw [hec, hold c (by omega), hj, ty_up_eq]
      · exact hnew e (by omega) e1
/-- the reference's steps -/
theorem q211 (hr : px_hr r) (d : Nat) (i l : MI) (lev hgt : Int → Int) (sh : Int → Bool) (w p a g m : Int) (hm : 0 ≤ m ∧ m < 1440) (hS : ty_RS i lev hgt sh w p a g) :
    ∃ i1 : MI, px_C (d + 1 + 1) 211 [vR 123, vI g, vI m] (px_sh L, i, l, r, t) = some (some (vI (ty_steps (i 123 0) (i 123 2) a m p (ty_can lev hgt w) sh)), (px_sh L, i1, l, r, t)) ∧ ty_ch [147] i i1 ∧
      (0 < ty_steps (i 123 0) (i 123 2) a m p (ty_can lev hgt w) sh → ∀ j : Nat, (j : Int) ≤ ty_steps (i 123 0) (i 123 2) a m p (ty_can lev hgt w) sh → ∀ e, 0 ≤ e → e < i 123 2 → i1 147 (36 * (j : Int) + e) = ty_b (ty_com (i 123 0) (i 123 2) a m p (ty_can lev hgt w) j e)) := by
  have hS' := hS
  obtain ⟨hW, hH, hC, hCb, hg, hl, hh, hw, hsh, hp, ha⟩ := hS
  have h0 : ty_ash (i 123 0) (i 123 2) a m p (ty_can lev hgt w) sh 0 = sh a := by
    have h1 : ty_ash (i 123 0) (i 123 2) a m p (ty_can lev hgt w) sh 0 = true ↔ sh a = true := by
      unfold ty_ash
      rw [ty_anyc_iff]
      constructor
      · rintro ⟨c, c0, c1, hc⟩
        rw [Bool.and_eq_true] at hc
        have hca : c = a := of_decide_eq_true hc.1
        rw [← hca]
        exact hc.2
      · intro h
        exact ⟨a, ha.2.1, by omega, by rw [h]; exact (Bool.and_eq_true _ _).mpr ⟨decide_eq_true rfl, rfl⟩⟩
    cases h2 : sh a <;> cases h3 : ty_ash (i 123 0) (i 123 2) a m p (ty_can lev hgt w) sh 0
    · rfl
    · rw [h1.mp h3] at h2
      exact absurd h2 (by decide)
    · rw [h1.mpr h2] at h3
      exact absurd h3 (by decide)
    · rfl
  unfold ty_steps
  show ∃ i1 : MI, _ = some (some (vI (if ty_ash (i 123 0) (i 123 2) a m p (ty_can lev hgt w) sh 0 = true then ((0 : Nat) : Int) else ty_first (ty_ash (i 123 0) (i 123 2) a m p (ty_can lev hgt w) sh) (i 123 2).toNat (0 + 1))), _) ∧ _ ∧ (0 < (if ty_ash (i 123 0) (i 123 2) a m p (ty_can lev hgt w) sh 0 = true then ((0 : Nat) : Int) else ty_first (ty_ash (i 123 0) (i 123 2) a m p (ty_can lev hgt w) sh) (i 123 2).toNat (0 + 1)) → ∀ j : Nat, (j : Int) ≤ (if ty_ash (i 123 0) (i 123 2) a m p (ty_can lev hgt w) sh 0 = true then ((0 : Nat) : Int) else ty_first (ty_ash (i 123 0) (i 123 2) a m p (ty_can lev hgt w) sh) (i 123 2).toNat (0 + 1)) → _)
  rw [h0, e211, b211_0 hr, ha.1, q209 hr _ _ _ _ (by omega), Option.bind_some, px_psh_some, b211_10 hr, hsh a ha.2.1 ha.2.2]
  cases hsa : sh a with
  | true =>
    rw [if_neg (show ¬ ty_b true = 0 by decide), if_pos rfl]
    exact ⟨i, rfl, ty_ch_rf, fun h => absurd h (by decide)⟩
  | false =>
    rw [if_pos (show ty_b false = 0 from rfl), if_neg (by decide)]
    obtain ⟨i1, e1, c1, hnew, -⟩ := ty_211_0 (L := L) (r := r) (t := t) hr d l g m (i 123 2).toNat i 0 (by omega) (by omega) (by omega)
    have i123 := c1 123 (by decide)
    obtain ⟨i2, e2, c2, h2⟩ := ty_211_k (L := L) (t := t) hr d l lev hgt sh w p a g m hm (i 123 0) (i 123 2) (i 123 2).toNat i1 1 vJ vJ vJ vJ vJ vJ (ty_RS_c i123 (c1 124 (by decide)) (c1 146 (by decide)) hS') (by rw [i123]) (by rw [i123]) (by omega) (by omega) (fun j hj e e0 ee => by
      have hj0 : j = 0 := by omega
      rw [hj0, show 36 * ((0 : Nat) : Int) + e = e by omega, hnew e e0 ee, ha.1]
      rfl) px_nl_J px_nl_J px_nl_J px_nl_J px_nl_J px_nl_J
    exact ⟨i2, e1.trans e2, ty_ch_tr c1 c2 rfl rfl, fun _ => h2⟩
end TYST
