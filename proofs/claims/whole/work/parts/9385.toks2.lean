/-! text: cutTokens; next. -/
def tz_tbl : List (Nat × Nat) := [(0, 4), (5, 9), (10, 14), (15, 19), (20, 24), (25, 32), (33, 35), (36, 39), (40, 43), (44, 50), (51, 55), (56, 60), (61, 65), (66, 70), (71, 75), (76, 79), (80, 84), (85, 90), (91, 95), (96, 101), (102, 105), (106, 111), (112, 117), (118, 123)]
def tz_cst : List Int := [13801765, 14589160, 9083692, 13244852, 9051315, 3424729639276, 3058, 138148, 191476, 49018527013, 14588836, 11992046, 13245355, 13597293, 10115186, 141415, 10656232, 748120428, 14589224, 802326898, 227700, 767519091, 600447155, 616496307]
theorem tz_tbl_ok : tz_tb 124 0 0 = tz_tbl := by decide +kernel
/-- bytes, the latest first -/
def tz_rv (T : Int → Int) (q : Nat) : Nat → List Int
  | 0 => []
  | n + 1 => T ((q + n : Nat) : Int) :: tz_rv T q n
def tz_rw (b : Nat) : Nat → List Int
  | 0 => []
  | n + 1 => ((px_words.getD (b + n) 0 : Nat) : Int) :: tz_rw b n
/-- letters as a number -/
def tz_ln : List Int → Int
  | [] => 0
  | b :: r => 64 * tz_ln r + (b - 64)
def tz_lt (R : List Int) : Prop := ∀ b, b ∈ R → 65 ≤ b ∧ b ≤ 122
theorem tz_ln_b : ∀ R : List Int, tz_lt R → 0 ≤ tz_ln R ∧ (R ≠ [] → 1 ≤ tz_ln R)
  | [], _ => ⟨Int.le_refl _, fun h => absurd rfl h⟩
  | b :: r, h => by
    have h1 := h b (List.mem_cons_self)
    have h2 := tz_ln_b r (fun x hx => h x (List.mem_cons_of_mem _ hx))
    unfold tz_ln
    constructor
    · omega
    · intro _
      omega
theorem tz_ln_inj : ∀ R R' : List Int, tz_lt R → tz_lt R' → tz_ln R = tz_ln R' → R = R'
  | [], [], _, _, _ => rfl
  | [], b :: r, _, h', e => by
    have := (tz_ln_b (b :: r) h').2 (by simp)
    have e0 : tz_ln [] = 0 := rfl
    omega
  | b :: r, [], h, _, e => by
    have := (tz_ln_b (b :: r) h).2 (by simp)
    have e0 : tz_ln [] = 0 := rfl
    omega
  | b :: r, b' :: r', h, h', e => by
    have h1 := h b (List.mem_cons_self)
    have h2 := h' b' (List.mem_cons_self)
    unfold tz_ln at e
    have e1 : b = b' := by omega
    have e2 := tz_ln_inj r r' (fun x hx => h x (List.mem_cons_of_mem _ hx)) (fun x hx => h' x (List.mem_cons_of_mem _ hx)) (by omega)
    rw [e1, e2]
theorem tz_ln_le : ∀ R : List Int, tz_lt R → R.length ≤ 8 → tz_ln R < 64 ^ R.length
  | [], _, _ => by decide
  | b :: r, h, hl => by
    have h1 := h b (List.mem_cons_self)
    rw [List.length_cons] at hl ⊢
    have h2 := tz_ln_le r (fun x hx => h x (List.mem_cons_of_mem _ hx)) (by omega)
    unfold tz_ln
    rw [Int.pow_succ]
    omega
theorem tz_rv_len (T : Int → Int) (q : Nat) : ∀ n, (tz_rv T q n).length = n
  | 0 => rfl
  | n + 1 => by
    unfold tz_rv
    rw [List.length_cons, tz_rv_len T q n]
theorem tz_rw_len (b : Nat) : ∀ n, (tz_rw b n).length = n
  | 0 => rfl
  | n + 1 => by
    unfold tz_rw
    rw [List.length_cons, tz_rw_len b n]
theorem tz_rv_lt (T : Int → Int) (q : Nat) : ∀ n, (∀ x, q ≤ x → x < q + n → tz_L (T (x : Nat)) = true) → tz_lt (tz_rv T q n)
  | 0, _ => fun b hb => by cases hb
  | n + 1, h => fun b hb => by
    rcases List.mem_cons.mp hb with e | e
    · have := tz_L_iff.mp (h (q + n) (by omega) (by omega))
      rw [e]
      omega
    · exact tz_rv_lt T q n (fun x x0 x1 => h x x0 (by omega)) b e
theorem tz_mw_iff (T : Int → Int) (q b : Nat) : ∀ n x : Nat, tz_mw T q b n x = true ↔ ∀ y, y < n → ((px_words.getD (b + x + y) 0 : Nat) : Int) = T ((q + x + y : Nat) : Int)
  | 0, x => ⟨fun _ y hy => absurd hy (by omega), fun _ => rfl⟩
  | n + 1, x => by
    have ih := tz_mw_iff T q b n (x + 1)
    unfold tz_mw
    by_cases h : ((px_words.getD (b + x) 0 : Nat) : Int) = T ((q + x : Nat) : Int)
    · rw [if_pos h, ih]
      constructor
      · intro g y hy
        cases y with
        | zero => exact h
        | succ y =>
          have := g y (by omega)
          rw [show b + (x + 1) + y = b + x + (y + 1) by omega, show q + (x + 1) + y = q + x + (y + 1) by omega] at this
          exact this
      · intro g y hy
        have := g (y + 1) (by omega)
        rw [show b + (x + 1) + y = b + x + (y + 1) by omega, show q + (x + 1) + y = q + x + (y + 1) by omega]
        exact this
    · rw [if_neg h]
      exact ⟨fun g => absurd g (by decide), fun g => absurd (g 0 (by omega)) h⟩
theorem tz_rv_rw (T : Int → Int) (q b : Nat) : ∀ n, tz_rv T q n = tz_rw b n ↔ ∀ y, y < n → ((px_words.getD (b + y) 0 : Nat) : Int) = T ((q + y : Nat) : Int)
  | 0 => ⟨fun _ y hy => absurd hy (by omega), fun _ => rfl⟩
  | n + 1 => by
    have ih := tz_rv_rw T q b n
    unfold tz_rv tz_rw
    rw [List.cons.injEq, ih]
    constructor
    · rintro ⟨g1, g2⟩ y hy
      by_cases e : y = n
      · rw [e]
        exact g1.symm
      · exact g2 y (by omega)
    · intro g
      exact ⟨(g n (by omega)).symm, fun y hy => g y (by omega)⟩
/-- the first constant that it is -/
def tz_fz (x : Int) : Int → List Int → Int
  | _, [] => -1
  | k, c :: r => if x = c then k else tz_fz x (k + 1) r
theorem tz_fz_b (x : Int) : ∀ (cs : List Int) (k : Int), tz_fz x k cs = -1 ∨ (k ≤ tz_fz x k cs ∧ tz_fz x k cs < k + cs.length)
  | [], k => Or.inl rfl
  | c :: r, k => by
    unfold tz_fz
    rw [List.length_cons]
    by_cases h : x = c
    · rw [if_pos h]
      exact Or.inr ⟨Int.le_refl _, by omega⟩
    · rw [if_neg h]
      rcases tz_fz_b x r (k + 1) with g | g
      · exact Or.inl g
      · exact Or.inr ⟨by omega, by omega⟩
theorem tz_fi_fz (T : Int → Int) (q len : Nat) (hL : tz_lt (tz_rv T q len)) : ∀ (tb : List (Nat × Nat)) (cs : List Int) (k : Int), 0 ≤ k → (∀ x, x ∈ tb.zip cs → tz_lt (tz_rw x.1.1 (x.1.2 - x.1.1)) ∧ tz_ln (tz_rw x.1.1 (x.1.2 - x.1.1)) = x.2) → tb.length = cs.length → tz_fi T q len (k + 24) tb = if tz_fz (tz_ln (tz_rv T q len)) k cs = -1 then 1 else tz_fz (tz_ln (tz_rv T q len)) k cs + 24
  | [], [], k, hk, _, _ => rfl
  | (b, e) :: tb, c :: cs, k, hk, h, hl => by
    have hx : tz_lt (tz_rw b (e - b)) ∧ tz_ln (tz_rw b (e - b)) = c := h ((b, e), c) (List.mem_cons_self)
    have ih := tz_fi_fz T q len hL tb cs (k + 1) (by omega) (fun x hx => h x (List.mem_cons_of_mem _ hx)) (by simpa using hl)
    have hiff : (e - b = len ∧ tz_mw T q b len 0 = true) ↔ tz_ln (tz_rv T q len) = c := by
      constructor
      · rintro ⟨g1, g2⟩
        have g3 := (tz_mw_iff T q b len 0).mp g2
        have g4 := (tz_rv_rw T q b len).mpr (fun y hy => by
          have := g3 y hy
          rw [Nat.add_zero, Nat.add_zero] at this
          exact this)
        rw [g4, ← hx.2, g1]
      · intro g
        rw [← hx.2] at g
        have g2 := tz_ln_inj _ _ hL hx.1 g
        have g3 := congrArg List.length g2
        rw [tz_rv_len, tz_rw_len] at g3
        refine ⟨g3.symm, (tz_mw_iff T q b len 0).mpr (fun y hy => ?_)⟩
        rw [← g3] at g2
        have := (tz_rv_rw T q b len).mp g2 y hy
        rw [Nat.add_zero, Nat.add_zero]
        exact this
    unfold tz_fi tz_fz
    by_cases g : tz_ln (tz_rv T q len) = c
    · rw [if_pos (hiff.mpr g), if_pos g, if_neg (by omega)]
    · rw [if_neg (fun g2 => g (hiff.mp g2)), if_neg g, show k + 24 + 1 = k + 1 + 24 by omega, ih]
  | [], c :: cs, k, hk, _, hl => by cases hl
  | (b, e) :: tb, [], k, hk, _, hl => by cases hl
theorem tz_zip_ok : ∀ x, x ∈ tz_tbl.zip tz_cst → (tz_rw x.1.1 (x.1.2 - x.1.1)).all (fun b => decide (65 ≤ b ∧ b ≤ 122)) = true ∧ tz_ln (tz_rw x.1.1 (x.1.2 - x.1.1)) = x.2 := by decide +kernel
theorem tz_word (T : Int → Int) (q len : Nat) (hL : tz_lt (tz_rv T q len)) : tz_fi T q len 24 (tz_tb 124 0 0) = if tz_fz (tz_ln (tz_rv T q len)) 0 tz_cst = -1 then 1 else tz_fz (tz_ln (tz_rv T q len)) 0 tz_cst + 24 := by
  rw [tz_tbl_ok]
  exact tz_fi_fz T q len hL tz_tbl tz_cst 0 (by omega) (fun x hx => by
    obtain ⟨h1, h2⟩ := tz_zip_ok x hx
    exact ⟨fun b hb => of_decide_eq_true (List.all_eq_true.mp h1 b hb), h2⟩) rfl
theorem tz_fi_long (T : Int → Int) (q len : Nat) (hl : 7 < len) : ∀ (tb : List (Nat × Nat)) (k : Int), (∀ x, x ∈ tb → x.2 - x.1 ≤ 7) → tz_fi T q len k tb = 1
  | [], _, _ => rfl
  | (b, e) :: tb, k, h => by
    have h1 := h (b, e) (List.mem_cons_self)
    unfold tz_fi
    rw [if_neg (fun g => by
      have h2 : e - b ≤ 7 := h1
      omega)]
    exact tz_fi_long T q len hl tb (k + 1) (fun x hx => h x (List.mem_cons_of_mem _ hx))
theorem tz_word_long (T : Int → Int) (q len : Nat) (hl : 7 < len) : tz_fi T q len 24 (tz_tb 124 0 0) = 1 := by
  rw [tz_tbl_ok]
  exact tz_fi_long T q len hl tz_tbl 24 (by decide)
/-- numbers in both -/
def tz_nr (u v : Int) : Prop := 0 ≤ u ∧ v ≤ 999999 ∧ ((u ≤ 9999 ∧ v = u) ∨ (u = 10000 ∧ 9999 < v))
def tz_nv (T : Int → Int) : Nat → Nat → Int → Int
  | 0, _, v => v
  | n + 1, p, v => tz_nv T n (p + 1) (if v ≤ 99999 then 10 * v + T p - 48 else v)
theorem tz_nr_n (T : Int → Int) : ∀ (n p : Nat) (u v : Int), (∀ x, p ≤ x → x < p + n → tz_G (T (x : Nat)) = true) → tz_nr u v → tz_nr (tz_nm T n p u) (tz_nv T n p v)
  | 0, _, _, _, _, h => h
  | n + 1, p, u, v, hg, h => by
    have hp := tz_G_iff.mp (hg p (by omega) (by omega))
    unfold tz_nm tz_nv
    refine tz_nr_n T n (p + 1) _ _ (fun x x0 x1 => hg x (by omega) (by omega)) ?_
    unfold tz_nr at h
    have e : px_w32 (px_w32 (px_w32 (u * 10) + T p) - 48) = u * 10 + T p - 48 := by
      rw [ty_w (x := u * 10) (by omega), ty_w (x := u * 10 + T p) (by omega), ty_w (by omega)]
    rw [e]
    clear e
    obtain ⟨y, hy⟩ : ∃ y, y = T p := ⟨_, rfl⟩
    rw [← hy] at hp ⊢
    clear hy hg
    unfold tz_nr
    rcases h with ⟨h1, h2, ⟨h3, h4⟩ | ⟨h3, h4⟩⟩
    · rw [if_pos (show v ≤ 99999 by omega)]
      by_cases g : u * 10 + y - 48 < 10000
      · rw [if_pos g]; omega
      · rw [if_neg g]; omega
    · rw [if_neg (show ¬ u * 10 + y - 48 < 10000 by omega)]
      by_cases g : v ≤ 99999
      · rw [if_pos g]; omega
      · rw [if_neg g]; omega
/-- the tokens -/
def tz_tK (T : Int → Int) (N : Nat) (x : Nat) : Int := if tz_ps T N x < N then tz_kd T N (tz_ps T N x) else 0
def tz_tU (T : Int → Int) (N : Nat) (x : Nat) : Int := tz_nm T (tz_be T N (tz_ps T N x) - tz_ps T N x) (tz_ps T N x) 0
def tz_tP (T : Int → Int) (N : Nat) (x : Nat) : Int := ((tz_ps T N x : Nat) : Int)
def tz_tB (T : Int → Int) (N : Nat) (x : Nat) : Int := if tz_ps T N x < N then ((tz_be T N (tz_ps T N x) : Nat) : Int) else (N : Int)
section TYK2
variable {L tt : Nat} {r : MR}
theorem tz_93_n (hr : px_hr r) {T : Int → Int} {N : Nat} (d : Nat) (l : MI) : ∀ (n : Nat) (i : MI) (c b p : Nat) (v4 : PV), px_nl v4 → p + n = N → tz_tp T N i → c ≤ p → b ≤ N → (∀ x, x < c → tz_ps T N x < p ∧ i 65 (x : Int) = tz_kd T N (tz_ps T N x) ∧ i 66 (x : Int) = ((tz_ps T N x : Nat) : Int) ∧ i 67 (x : Int) = tz_tU T N x) → p ≤ tz_ps T N c → (p < b ∧ tz_ps T N c = tz_sk T (N - b) b ∨ b ≤ p ∧ tz_ps T N c = tz_sk T (N - p) p) →
    ∃ (i1 : MI) (m : Nat), px_X (d + 3 + 1) 93 (6, [vR 58, vI (c : Int), vI (b : Int), vI (p : Int), v4], []) (px_sh L, i, l, r, tt) = some (none, (px_sh L, i1, l, r, tt)) ∧ ty_ch [65, 66, 67] i i1 ∧ (m ≤ N ∧ tz_ps T N m = N) ∧ (∀ x, x < m → tz_ps T N x < N ∧ i1 65 (x : Int) = tz_kd T N (tz_ps T N x) ∧ i1 66 (x : Int) = ((tz_ps T N x : Nat) : Int) ∧ i1 67 (x : Int) = tz_tU T N x) ∧ i1 65 (m : Int) = 0 ∧ i1 66 (m : Int) = (N : Int)
  | 0, i, c, b, p, v4, hn4, hn, htp, hcp, hbN, hx, hpc, hJ => by
    have h300 := htp.2.1
    have e : p = N := by omega
    have hN : tz_ps T N c = N := by
      rcases hJ with ⟨g1, g2⟩ | ⟨g1, g2⟩
      · omega
      · rw [g2, e, Nat.sub_self]
        rfl
    obtain ⟨j, hj⟩ : ∃ j : MI, j = px_up (px_up i 65 (c : Int) 0) 66 (c : Int) (N : Int) := ⟨_, rfl⟩
    have cj : ty_ch [65, 66, 67] i j := by
      rw [hj]
      exact ty_ch_tr (ty_ch_up (S := [65]) (by decide)) (ty_ch_up (S := [66]) (by decide)) rfl rfl
    refine ⟨j, c, ?_, cj, ⟨by omega, hN⟩, fun x hxc => ?_, ?_, ?_⟩
    · rw [b93_6 hr _ _ _ _ _ _ hn4, if_pos (by rw [htp.1]; omega), q34i hr _ _ _ (px_s65 L) (Nat.le_of_ble_eq_true rfl) _ _ (by omega), Option.bind_some, px_psh_none, b93_107 hr _ _ _ _ _ _ hn4, ty_up_k (by decide), htp.1, q34i hr _ _ _ (px_s66 L) (Nat.le_of_ble_eq_true rfl) _ _ (by omega), ← hj, Option.bind_some, px_psh_none, b93_119 hr _ _ _ _ _ _ hn4]
    · obtain ⟨g1, g2, g3, g4⟩ := hx x hxc
      refine ⟨by omega, ?_, ?_, ?_⟩
      · rw [hj, ty_up_k (by decide), ty_up_j (by omega)]
        exact g2
      · rw [hj, ty_up_j (by omega), ty_up_k (by decide)]
        exact g3
      · rw [hj, ty_up_k (by decide), ty_up_k (by decide)]
        exact g4
    · rw [hj, ty_up_k (by decide), ty_up_eq]
    · rw [hj, ty_up_eq]
  | n + 1, i, c, b, p, v4, hn4, hn, htp, hcp, hbN, hx, hpc, hJ => by
    have h300 := htp.2.1
    have hgo : px_X (d + 3 + 1) 93 (6, [vR 58, vI (c : Int), vI (b : Int), vI (p : Int), v4], []) (px_sh L, i, l, r, tt) = px_X (d + 3 + 1) 93 (22, [vR 58, vI (c : Int), vI (b : Int), vI (p : Int), v4], [vI (T p)]) (px_sh L, i, l, r, tt) := by
      rw [b93_6 hr _ _ _ _ _ _ hn4, if_neg (by rw [htp.1]; omega), tz_33t hr _ _ _ htp p (by omega), Option.bind_some, px_psh_some]
    rw [hgo, b93_22 hr _ _ _ _ _ _ hn4]
    have skip : p + 1 ≤ tz_ps T N c → (p + 1 < b ∧ tz_ps T N c = tz_sk T (N - b) b ∨ b ≤ p + 1 ∧ tz_ps T N c = tz_sk T (N - (p + 1)) (p + 1)) → ∃ (i1 : MI) (m : Nat), px_X (d + 3 + 1) 93 (6, [vR 58, vI (c : Int), vI (b : Int), vI (px_w32 ((p : Int) + 1)), vI (T p)], []) (px_sh L, i, l, r, tt) = some (none, (px_sh L, i1, l, r, tt)) ∧ ty_ch [65, 66, 67] i i1 ∧ (m ≤ N ∧ tz_ps T N m = N) ∧ (∀ x, x < m → tz_ps T N x < N ∧ i1 65 (x : Int) = tz_kd T N (tz_ps T N x) ∧ i1 66 (x : Int) = ((tz_ps T N x : Nat) : Int) ∧ i1 67 (x : Int) = tz_tU T N x) ∧ i1 65 (m : Int) = 0 ∧ i1 66 (m : Int) = (N : Int) := fun h1 h2 => by
      rw [show px_w32 ((p : Int) + 1) = ((p + 1 : Nat) : Int) by rw [ty_w (by omega)]; omega]
      exact tz_93_n hr d l n i c b (p + 1) _ (px_nl_I _) (by omega) htp (by omega) hbN (fun x hxc => by
        obtain ⟨g1, g2⟩ := hx x hxc
        exact ⟨by omega, g2⟩) h1 h2
    by_cases hpb : p < b
    · have hJ1 : tz_ps T N c = tz_sk T (N - b) b := by
        rcases hJ with ⟨g1, g2⟩ | ⟨g1, g2⟩
        · exact g2
        · omega
      have hb2 := tz_sk_b T (N - b) b
      rw [if_pos (by omega)]
      refine skip (by omega) ?_
      by_cases hpb2 : p + 1 < b
      · exact Or.inl ⟨hpb2, hJ1⟩
      · have e : p + 1 = b := by omega
        rw [e]
        exact Or.inr ⟨Nat.le_refl _, hJ1⟩
    · have hJ2 : tz_ps T N c = tz_sk T (N - p) p := by
        rcases hJ with ⟨g1, g2⟩ | ⟨g1, g2⟩
        · omega
        · exact g2
      have eN : N - p = (N - (p + 1)) + 1 := by omega
      rw [eN] at hJ2
      unfold tz_sk at hJ2
      rw [if_neg (by omega)]
      have hb3 := tz_sk_b T (N - (p + 1)) (p + 1)
      by_cases h32 : T p = 32
      · rw [if_pos (Or.inl h32)] at hJ2
        rw [if_pos h32]
        exact skip (by omega) (Or.inr ⟨by omega, hJ2⟩)
      · by_cases h10 : T p = 10
        · rw [if_pos (Or.inr h10)] at hJ2
          rw [if_neg h32, if_pos h10]
          exact skip (by omega) (Or.inr ⟨by omega, hJ2⟩)
        · rw [if_neg (fun g => by
            rcases g with g | g
            · exact h32 g
            · exact h10 g)] at hJ2
          rw [if_neg h32, if_neg h10]
          have hpN : p < N := by omega
          have hbe := tz_be_b T hpN
          have h94 := tz_94 (L := L) (r := r) (tt := tt) hr (d + 1) i l htp p hpN
          have h97 := tz_97 (L := L) (r := r) (tt := tt) hr d i l htp p hpN
          obtain ⟨i1, hi1⟩ : ∃ i1 : MI, i1 = px_up (px_up i 65 (c : Int) (tz_kd T N p)) 66 (c : Int) (p : Int) := ⟨_, rfl⟩
          have c1 : ty_ch [65, 66] i i1 := by
            rw [hi1]
            exact ty_ch_tr (ty_ch_up (S := [65]) (by decide)) (ty_ch_up (S := [66]) (by decide)) rfl rfl
          have htp1 : tz_tp T N i1 := ⟨by rw [c1 58 (by decide)]; exact htp.1, h300, fun x hx => by rw [c1 64 (by decide)]; exact htp.2.2 x hx⟩
          have h100 : px_C (d + 3) 100 [vR 58, vI (p : Int), vI ((tz_be T N p : Nat) : Int)] (px_sh L, i1, l, r, tt) = some (some (vI (tz_nm T (tz_be T N p - p) p 0)), (px_sh L, i1, l, r, tt)) := by
            rw [e100, b100_0 hr]
            exact tz_100_n (L := L) (r := r) (tt := tt) hr (d + 2) i1 l htp1 (p : Int) (tz_be T N p) hbe.2 (tz_be T N p - p) p 0 (by omega)
          obtain ⟨i2, hi2⟩ : ∃ i2 : MI, i2 = px_up i1 67 (c : Int) (tz_nm T (tz_be T N p - p) p 0) := ⟨_, rfl⟩
          have c2 : ty_ch [65, 66, 67] i i2 := by
            rw [hi2]
            exact ty_ch_tr c1 (ty_ch_up (S := [67]) (by decide)) rfl rfl
          have htp2 : tz_tp T N i2 := ⟨by rw [c2 58 (by decide)]; exact htp.1, h300, fun x hx => by rw [c2 64 (by decide)]; exact htp.2.2 x hx⟩
          have hps : tz_ps T N (c + 1) = tz_sk T (N - tz_be T N p) (tz_be T N p) := by
            show tz_sk T (N - tz_be T N (tz_ps T N c)) (tz_be T N (tz_ps T N c)) = _
            rw [hJ2]
          have hb4 := tz_sk_b T (N - tz_be T N p) (tz_be T N p)
          obtain ⟨i3, m, r3, c3, h3⟩ := tz_93_n hr d l n i2 (c + 1) (tz_be T N p) (p + 1) (vI (T p)) (px_nl_I _) (by omega) htp2 (by omega) hbe.2 (fun x hxc => by
            by_cases e : x = c
            · rw [e, hJ2]
              refine ⟨by omega, ?_, ?_, ?_⟩
              · rw [hi2, ty_up_k (by decide), hi1, ty_up_k (by decide), ty_up_eq]
              · rw [hi2, ty_up_k (by decide), hi1, ty_up_eq]
              · rw [hi2, ty_up_eq]
                unfold tz_tU
                rw [hJ2]
            · obtain ⟨g1, g2, g3, g4⟩ := hx x (by omega)
              refine ⟨by omega, ?_, ?_, ?_⟩
              · rw [hi2, ty_up_k (by decide), hi1, ty_up_k (by decide), ty_up_j (by omega)]
                exact g2
              · rw [hi2, ty_up_k (by decide), hi1, ty_up_j (by omega), ty_up_k (by decide)]
                exact g3
              · rw [hi2, ty_up_j (by omega), hi1, ty_up_k (by decide), ty_up_k (by decide)]
                exact g4) (by omega) (by
            by_cases hlt : p + 1 < tz_be T N p
            · exact Or.inl ⟨hlt, hps⟩
            · have e : p + 1 = tz_be T N p := by omega
              rw [← e] at hps ⊢
              exact Or.inr ⟨Nat.le_refl _, hps⟩)
          refine ⟨i3, m, ?_, ty_ch_tr c2 c3 rfl rfl, h3⟩
          have r94 : px_C (d + 3) 94 [vR 58, vI (p : Int)] (px_sh L, i, l, r, tt) = some (some (vI ((tz_be T N p : Nat) : Int)), (px_sh L, i, l, r, tt)) := h94
          have r97 : px_C (d + 3) 97 [vR 58, vI (p : Int), vI ((tz_be T N p : Nat) : Int)] (px_sh L, i, l, r, tt) = some (some (vI (tz_kd T N p)), (px_sh L, i, l, r, tt)) := h97
          rw [r94, Option.bind_some, px_psh_some, b93_51 hr, r97, Option.bind_some, px_psh_some, b93_63 hr, q34i hr _ _ _ (px_s65 L) (Nat.le_of_ble_eq_true rfl) _ _ (by omega), Option.bind_some, px_psh_none, b93_66 hr, q34i hr _ _ _ (px_s66 L) (Nat.le_of_ble_eq_true rfl) _ _ (by omega), ← hi1, Option.bind_some, px_psh_none, b93_75 hr, h100, Option.bind_some, px_psh_some, b93_86 hr, q34i hr _ _ _ (px_s67 L) (Nat.le_of_ble_eq_true rfl) _ _ (by omega), ← hi2, Option.bind_some, px_psh_none, b93_89 hr, show px_w32 ((p : Int) + 1) = ((p + 1 : Nat) : Int) by rw [ty_w (by omega)]; omega, show px_w32 ((c : Int) + 1) = ((c + 1 : Nat) : Int) by rw [ty_w (by omega)]; omega]
          exact r3
/-- cutTokens -/
theorem tz_93 (hr : px_hr r) {T : Int → Int} {N : Nat} (d : Nat) (i l : MI) (h : tz_tp T N i) :
    ∃ (i1 : MI) (m : Nat), px_C (d + 3 + 1) 93 [vR 58] (px_sh L, i, l, r, tt) = some (none, (px_sh L, i1, l, r, tt)) ∧ ty_ch [65, 66, 67] i i1 ∧ (m ≤ N ∧ tz_ps T N m = N) ∧ (∀ x, x < m → tz_ps T N x < N ∧ i1 65 (x : Int) = tz_kd T N (tz_ps T N x) ∧ i1 66 (x : Int) = ((tz_ps T N x : Nat) : Int) ∧ i1 67 (x : Int) = tz_tU T N x) ∧ i1 65 (m : Int) = 0 ∧ i1 66 (m : Int) = (N : Int) := by
  obtain ⟨i1, m, r1, h1⟩ := tz_93_n (L := L) (r := r) (tt := tt) hr d l N i 0 0 0 vJ px_nl_J (by omega) h (Nat.le_refl _) (by omega) (fun x hx => by omega) (Nat.zero_le _) (Or.inr ⟨Nat.le_refl _, rfl⟩)
  exact ⟨i1, m, by rw [e93, b93_0 hr]; exact r1, h1⟩
end TYK2
