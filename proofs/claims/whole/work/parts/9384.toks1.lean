/-! text: how the tape is cut. T: the bytes, N: how many. -/
def tz_L (x : Int) : Bool := decide (97 ≤ x ∧ x ≤ 122) || decide (65 ≤ x ∧ x ≤ 90)
def tz_G (x : Int) : Bool := decide (48 ≤ x ∧ x ≤ 57)
theorem tz_L_iff {x : Int} : tz_L x = true ↔ (97 ≤ x ∧ x ≤ 122) ∨ (65 ≤ x ∧ x ≤ 90) := by
  unfold tz_L
  rw [Bool.or_eq_true, decide_eq_true_eq, decide_eq_true_eq]
theorem tz_G_iff {x : Int} : tz_G x = true ↔ 48 ≤ x ∧ x ≤ 57 := by
  unfold tz_G
  rw [decide_eq_true_eq]
/-- the end of a run -/
def tz_re (f : Int → Bool) (T : Int → Int) : Nat → Nat → Nat
  | 0, p => p
  | n + 1, p => if f (T p) = true then tz_re f T n (p + 1) else p
theorem tz_re_b (f : Int → Bool) (T : Int → Int) : ∀ n p : Nat, p ≤ tz_re f T n p ∧ tz_re f T n p ≤ p + n
  | 0, p => ⟨Nat.le_refl _, Nat.le_refl _⟩
  | n + 1, p => by
    unfold tz_re
    have := tz_re_b f T n (p + 1)
    by_cases h : f (T p) = true
    · rw [if_pos h]; omega
    · rw [if_neg h]; omega
theorem tz_re_in (f : Int → Bool) (T : Int → Int) : ∀ n p x : Nat, p ≤ x → x < tz_re f T n p → f (T x) = true
  | 0, p, x, h0, h1 => by
    have : x < p := h1
    omega
  | n + 1, p, x, h0, h1 => by
    unfold tz_re at h1
    by_cases h : f (T p) = true
    · rw [if_pos h] at h1
      by_cases e : x = p
      · rw [e]
        exact h
      · exact tz_re_in f T n (p + 1) x (by omega) h1
    · rw [if_neg h] at h1
      omega
/-- blanks -/
def tz_sk (T : Int → Int) : Nat → Nat → Nat
  | 0, p => p
  | n + 1, p => if T p = 32 ∨ T p = 10 then tz_sk T n (p + 1) else p
theorem tz_sk_b (T : Int → Int) : ∀ n p : Nat, p ≤ tz_sk T n p ∧ tz_sk T n p ≤ p + n
  | 0, p => ⟨Nat.le_refl _, Nat.le_refl _⟩
  | n + 1, p => by
    unfold tz_sk
    have := tz_sk_b T n (p + 1)
    by_cases h : T p = 32 ∨ T p = 10
    · rw [if_pos h]; omega
    · rw [if_neg h]; omega
theorem tz_sk_n (T : Int → Int) : ∀ n p : Nat, tz_sk T n p < p + n → ¬ (T (tz_sk T n p : Nat) = 32 ∨ T (tz_sk T n p : Nat) = 10)
  | 0, p, h => by
    have : p < p + 0 := h
    omega
  | n + 1, p, h => by
    unfold tz_sk at h ⊢
    by_cases hb : T p = 32 ∨ T p = 10
    · rw [if_pos hb] at h ⊢
      exact tz_sk_n T n (p + 1) (by omega)
    · rw [if_neg hb]
      exact hb
/-- behind a token -/
def tz_be (T : Int → Int) (N q : Nat) : Nat := if tz_L (T q) = true then tz_re tz_L T (N - q) q else if tz_G (T q) = true then tz_re tz_G T (N - q) q else if (T q = 60 ∨ T q = 62) ∧ q + 1 < N ∧ T ((q + 1 : Nat) : Int) = 61 then q + 2 else q + 1
theorem tz_be_b (T : Int → Int) {N q : Nat} (h : q < N) : q < tz_be T N q ∧ tz_be T N q ≤ N := by
  have step : ∀ f : Int → Bool, f (T q) = true → q < tz_re f T (N - q) q ∧ tz_re f T (N - q) q ≤ N := fun f hf => by
    have e : N - q = (N - q - 1) + 1 := by omega
    rw [e]
    unfold tz_re
    rw [if_pos hf]
    have := tz_re_b f T (N - q - 1) (q + 1)
    omega
  unfold tz_be
  by_cases h1 : tz_L (T q) = true
  · rw [if_pos h1]
    exact step tz_L h1
  · rw [if_neg h1]
    by_cases h2 : tz_G (T q) = true
    · rw [if_pos h2]
      exact step tz_G h2
    · rw [if_neg h2]
      by_cases h3 : (T q = 60 ∨ T q = 62) ∧ q + 1 < N ∧ T ((q + 1 : Nat) : Int) = 61
      · rw [if_pos h3]; omega
      · rw [if_neg h3]; omega
/-- words: where they stand -/
def tz_tb : Nat → Nat → Nat → List (Nat × Nat)
  | 0, _, _ => []
  | n + 1, b, i => if px_words.getD i 0 = 32 then (b, i) :: tz_tb n (i + 1) (i + 1) else tz_tb n b (i + 1)
/-- the bytes of WORDS from a place on are the tape's -/
def tz_mw (T : Int → Int) (q b : Nat) : Nat → Nat → Bool
  | 0, _ => true
  | n + 1, x => if ((px_words.getD (b + x) 0 : Nat) : Int) = T ((q + x : Nat) : Int) then tz_mw T q b n (x + 1) else false
def tz_fi (T : Int → Int) (q len : Nat) : Int → List (Nat × Nat) → Int
  | _, [] => 1
  | k, (b, e) :: r => if e - b = len ∧ tz_mw T q b len 0 = true then k else tz_fi T q len (k + 1) r
def tz_wl (T : Int → Int) (q len : Nat) : Nat → Int → Nat → Nat → Int
  | 0, _, _, _ => 1
  | n + 1, k, b, i => if px_words.getD i 0 = 32 then (if i - b = len ∧ tz_mw T q b len 0 = true then k else tz_wl T q len n (k + 1) (i + 1) (i + 1)) else tz_wl T q len n k b (i + 1)
theorem tz_wl_fi (T : Int → Int) (q len : Nat) : ∀ (n : Nat) (k : Int) (b i : Nat), tz_wl T q len n k b i = tz_fi T q len k (tz_tb n b i)
  | 0, _, _, _ => rfl
  | n + 1, k, b, i => by
    unfold tz_wl tz_tb
    by_cases h : px_words.getD i 0 = 32
    · rw [if_pos h, if_pos h, tz_wl_fi T q len n]
      rfl
    · rw [if_neg h, if_neg h, tz_wl_fi T q len n]
/-- signs -/
def tz_sn (x : Int) (two : Bool) : Int :=
  if x = 35 then 19 else if x = 40 then 3 else if x = 41 then 4 else if x = 42 then 12 else if x = 43 then 10 else if x = 45 then 11 else if x = 47 then 13 else if x = 59 then 5 else if x = 60 then (if two = true then 15 else 14) else if x = 61 then 18 else if x = 62 then (if two = true then 17 else 16) else 1
def tz_kd (T : Int → Int) (N q : Nat) : Int := if tz_L (T q) = true then tz_fi T q (tz_be T N q - q) 24 (tz_tb 124 0 0) else if tz_G (T q) = true then 2 else tz_sn (T q) (decide (tz_be T N q = q + 2))
def tz_nm (T : Int → Int) : Nat → Nat → Int → Int
  | 0, _, a => a
  | n + 1, p, a => tz_nm T n (p + 1) (if px_w32 (px_w32 (px_w32 (a * 10) + T p) - 48) < 10000 then px_w32 (px_w32 (px_w32 (a * 10) + T p) - 48) else 10000)
/-- where tokens stand -/
def tz_ps (T : Int → Int) (N : Nat) : Nat → Nat
  | 0 => tz_sk T N 0
  | j + 1 => tz_sk T (N - tz_be T N (tz_ps T N j)) (tz_be T N (tz_ps T N j))
theorem tz_ps_N (T : Int → Int) (N : Nat) : ∀ j : Nat, (∀ x, x < j → tz_ps T N x < N) → tz_ps T N j ≤ N
  | 0, _ => by
    have := tz_sk_b T N 0
    unfold tz_ps
    omega
  | j + 1, h => by
    have h1 := tz_be_b T (h j (by omega))
    have h2 := tz_sk_b T (N - tz_be T N (tz_ps T N j)) (tz_be T N (tz_ps T N j))
    unfold tz_ps
    omega
theorem tz_ps_n (T : Int → Int) (N : Nat) : ∀ j : Nat, (∀ x, x < j → tz_ps T N x < N) → tz_ps T N j < N → ¬ (T (tz_ps T N j : Nat) = 32 ∨ T (tz_ps T N j : Nat) = 10)
  | 0, _, hlt => by
    unfold tz_ps at hlt ⊢
    exact tz_sk_n T N 0 (by omega)
  | j + 1, h, hlt => by
    have h1 := tz_be_b T (h j (by omega))
    unfold tz_ps at hlt ⊢
    exact tz_sk_n T _ _ (by omega)
section TYK1
variable {L tt : Nat} {r : MR}
theorem tz_95 (hr : px_hr r) (d : Nat) (i l : MI) (x : Int) : px_C (d + 1) 95 [vI x] (px_sh L, i, l, r, tt) = some (some (vI (if tz_L x = true then 1 else 0)), (px_sh L, i, l, r, tt)) := by
  have h := @tz_L_iff x
  rw [e95, b95_0 hr, q30 hr, Option.bind_some, px_psh_some, b95_8 hr]
  by_cases h1 : 97 ≤ x ∧ x ≤ 122
  · rw [px_bi_T h1, if_neg (by omega), if_pos (h.mpr (Or.inl h1))]
  · rw [px_bi_F h1, if_pos rfl, q30 hr, Option.bind_some, px_psh_some, b95_19 hr]
    by_cases h2 : 65 ≤ x ∧ x ≤ 90
    · rw [px_bi_T h2, if_neg (by omega), if_pos (h.mpr (Or.inr h2))]
    · rw [px_bi_F h2, if_pos rfl, if_neg (fun g => by
        rcases h.mp g with g | g
        · exact h1 g
        · exact h2 g)]
theorem tz_96 (hr : px_hr r) (d : Nat) (i l : MI) (x : Int) : px_C (d + 1) 96 [vI x] (px_sh L, i, l, r, tt) = some (some (vI (if tz_G x = true then 1 else 0)), (px_sh L, i, l, r, tt)) := by
  have h := @tz_G_iff x
  rw [e96, b96_0 hr, q30 hr, Option.bind_some, px_psh_some, b96_8 hr _ _ _ _ _ px_bi01]
  by_cases h1 : 48 ≤ x ∧ x ≤ 57
  · rw [px_bi_T h1, if_pos (h.mpr h1)]
  · rw [px_bi_F h1, if_neg (fun g => h1 (h.mp g))]
/-- the tape in the class's memory -/
def tz_tp (T : Int → Int) (N : Nat) (i : MI) : Prop := i 58 1 = (N : Int) ∧ N ≤ 300 ∧ ∀ x : Nat, x < N → i 64 (x : Int) = T x
theorem tz_33t (hr : px_hr r) {T : Int → Int} {N : Nat} (d : Nat) (i l : MI) (h : tz_tp T N i) (x : Nat) (hx : x < N) : px_C d 33 [vR 64, vI (x : Int)] (px_sh L, i, l, r, tt) = some (some (vI (T x)), (px_sh L, i, l, r, tt)) := by
  have h3 := h.2.1
  rw [q33i hr _ _ _ (px_s64 L) (Nat.le_of_ble_eq_true rfl) _ (by omega), h.2.2 x hx]
theorem tz_94_l (hr : px_hr r) {T : Int → Int} {N : Nat} (d : Nat) (i l : MI) (h : tz_tp T N i) (x1 x2 x3 : Int) (f : Int → Bool) (hf : x3 = 0 ∧ f = tz_G ∨ ¬ x3 = 0 ∧ f = tz_L) : ∀ (n p : Nat) (v5 : PV), px_nl v5 → p + n = N → px_X (d + 1 + 1) 94 (87, [vR 58, vI x1, vI x2, vI x3, vI (p : Int), v5], []) (px_sh L, i, l, r, tt) = some (some (vI ((tz_re f T n p : Nat) : Int)), (px_sh L, i, l, r, tt))
  | 0, p, v5, hn5, hn => by
    have h1 := h.1
    rw [b94_87 hr _ _ _ _ _ _ _ hn5, if_pos (by omega), h1]
    have e : p = N := by omega
    rw [← e]
    rfl
  | n + 1, p, v5, hn5, hn => by
    have h1 := h.1
    have h2 := h.2.1
    have hgo : px_X (d + 1 + 1) 94 (87, [vR 58, vI x1, vI x2, vI x3, vI (p : Int), v5], []) (px_sh L, i, l, r, tt) = px_X (d + 1 + 1) 94 (127, [vR 58, vI x1, vI x2, vI x3, vI (p : Int), v5], [vI (if f (T p) = true then 1 else 0)]) (px_sh L, i, l, r, tt) := by
      rw [b94_87 hr _ _ _ _ _ _ _ hn5, if_neg (by omega)]
      rcases hf with ⟨g1, g2⟩ | ⟨g1, g2⟩
      · rw [if_pos g1, tz_33t hr _ _ _ h p (by omega), Option.bind_some, px_psh_some, b94_124 hr _ _ _ _ _ _ _ hn5, tz_96 hr, Option.bind_some, px_psh_some, g2]
      · rw [if_neg g1, tz_33t hr _ _ _ h p (by omega), Option.bind_some, px_psh_some, b94_109 hr _ _ _ _ _ _ _ hn5, tz_95 hr, Option.bind_some, px_psh_some, b94_112 hr _ _ _ _ _ _ _ hn5, g2]
    rw [hgo, b94_127 hr _ _ _ _ _ _ _ hn5]
    unfold tz_re
    by_cases hp : f (T p) = true
    · rw [if_pos hp, if_pos hp, if_neg (by omega), show px_w32 ((p : Int) + 1) = ((p + 1 : Nat) : Int) by rw [ty_w (by omega)]; omega]
      exact tz_94_l hr d i l h x1 x2 x3 f hf n (p + 1) _ (px_nl_I _) (by omega)
    · rw [if_neg hp, if_neg hp, if_pos rfl]
/-- behindToken -/
theorem tz_94 (hr : px_hr r) {T : Int → Int} {N : Nat} (d : Nat) (i l : MI) (h : tz_tp T N i) (q : Nat) (hq : q < N) : px_C (d + 1 + 1) 94 [vR 58, vI (q : Int)] (px_sh L, i, l, r, tt) = some (some (vI ((tz_be T N q : Nat) : Int)), (px_sh L, i, l, r, tt)) := by
  have h1 := h.1
  have h2 := h.2.1
  rw [e94, b94_0 hr, tz_33t hr _ _ _ h q hq, Option.bind_some, px_psh_some, b94_8 hr, tz_95 hr, Option.bind_some, px_psh_some, b94_13 hr]
  unfold tz_be
  by_cases hL : tz_L (T q) = true
  · rw [if_pos hL, if_pos hL, if_neg (by omega), tz_94_l hr d i l h _ _ _ tz_L (Or.inr ⟨by omega, rfl⟩) (N - q) q vJ px_nl_J (by omega)]
  · rw [if_neg hL, if_neg hL, if_pos rfl, tz_96 hr, Option.bind_some, px_psh_some, b94_22 hr]
    by_cases hG : tz_G (T q) = true
    · rw [if_pos hG, if_pos hG, if_neg (by omega), tz_94_l hr d i l h _ _ _ tz_G (Or.inl ⟨rfl, rfl⟩) (N - q) q vJ px_nl_J (by omega)]
    · rw [if_neg hG, if_neg hG, if_pos rfl]
      have e1 : px_w32 ((q : Int) + 1) = ((q + 1 : Nat) : Int) := by rw [ty_w (by omega)]; omega
      have e2 : px_w32 ((q : Int) + 2) = ((q + 2 : Nat) : Int) := by rw [ty_w (by omega)]; omega
      have n66 : px_X (d + 1 + 1) 94 (66, [vR 58, vI (q : Int), vI (T q), vI 0, vJ, vJ], []) (px_sh L, i, l, r, tt) = some (some (vI ((q + 1 : Nat) : Int)), (px_sh L, i, l, r, tt)) := by
        rw [b94_66 hr, b94_67 hr, if_pos rfl, e1]
      have n37 : (T q = 60 ∨ T q = 62) → px_X (d + 1 + 1) 94 (37, [vR 58, vI (q : Int), vI (T q), vI 0, vJ, vJ], []) (px_sh L, i, l, r, tt) = some (some (vI (((if (T q = 60 ∨ T q = 62) ∧ q + 1 < N ∧ T ((q + 1 : Nat) : Int) = 61 then q + 2 else q + 1) : Nat) : Int)), (px_sh L, i, l, r, tt)) := fun hs => by
        rw [b94_37 hr, e1, h1]
        by_cases hN : q + 1 < N
        · rw [if_neg (by clear e1 e2 n66; omega), tz_33t hr _ _ _ h (q + 1) hN, Option.bind_some, px_psh_some, b94_57 hr]
          by_cases h61 : T ((q + 1 : Nat) : Int) = 61
          · rw [if_pos h61, b94_67 hr, if_neg (by decide), e2, if_pos ⟨hs, hN, h61⟩]
          · rw [if_neg h61, n66, if_neg (fun g => h61 g.2.2)]
        · rw [if_pos (by clear e1 e2 n66; omega), n66, if_neg (fun g => hN g.2.1)]
      by_cases h60 : T q = 60
      · rw [if_pos h60, n37 (Or.inl h60)]
      · rw [if_neg h60]
        by_cases h62 : T q = 62
        · rw [if_pos h62, n37 (Or.inr h62)]
        · rw [if_neg h62, n66, if_neg (fun g => by
            rcases g.1 with g | g
            · exact h60 g
            · exact h62 g)]
/-- isWord -/
theorem tz_99_n (hr : px_hr r) {T : Int → Int} {N : Nat} (d : Nat) (i l : MI) (h : tz_tp T N i) (q b e : Nat) (he : e ≤ 124) : ∀ (n x : Nat), b + x + n = e → q + x + n ≤ N → px_X (d + 1) 99 (3, [vR 58, vI (b : Int), vI (e : Int), vI (q : Int), vI ((b + x : Nat) : Int)], []) (px_sh L, i, l, r, tt) = some (some (vI (if tz_mw T q b n x = true then 1 else 0)), (px_sh L, i, l, r, tt))
  | 0, x, hn, hq => by
    rw [b99_3 hr _ _ _ _ _ _ _ (by intros; omega), if_neg (by omega), if_pos (by omega)]
    rfl
  | n + 1, x, hn, hq => by
    have h2 := h.2.1
    rw [b99_3 hr _ _ _ _ _ _ _ (by intros; omega), if_neg (by omega), if_neg (by omega), if_neg (by omega)]
    rw [show px_w32 (px_w32 ((q : Int) + ((b + x : Nat) : Int)) - (b : Int)) = ((q + x : Nat) : Int) by rw [ty_w (x := (q : Int) + ((b + x : Nat) : Int)) (by omega), ty_w (by omega)]; omega, tz_33t hr _ _ _ h (q + x) (by omega), Option.bind_some, px_psh_some, b99_44 hr, Int.toNat_natCast]
    unfold tz_mw
    by_cases hw : ((px_words.getD (b + x) 0 : Nat) : Int) = T ((q + x : Nat) : Int)
    · rw [if_pos hw, if_pos hw, show px_w32 (((b + x : Nat) : Int) + 1) = ((b + (x + 1) : Nat) : Int) by rw [ty_w (by omega)]; omega]
      exact tz_99_n hr d i l h q b e he n (x + 1) (by omega) (by omega)
    · rw [if_neg hw, if_neg hw, if_neg (by decide)]
/-- wordKind -/
theorem tz_98_n (hr : px_hr r) {T : Int → Int} {N : Nat} (d : Nat) (i l : MI) (h : tz_tp T N i) (q len : Nat) (hq : q + len ≤ N) : ∀ (n : Nat) (k : Int) (b x : Nat), x + n = 124 → b ≤ x → 0 ≤ k ∧ k + n ≤ 1000 → px_X (d + 1 + 1) 98 (9, [vR 58, vI (q : Int), vI ((q + len : Nat) : Int), vI k, vI (b : Int), vI (x : Int)], []) (px_sh L, i, l, r, tt) = some (some (vI (tz_wl T q len n k b x)), (px_sh L, i, l, r, tt))
  | 0, k, b, x, hn, hb, hk => by
    rw [b98_9 hr _ _ _ _ _ _ _ _ (by intros; omega), if_pos (by omega)]
    rfl
  | n + 1, k, b, x, hn, hb, hk => by
    have h2 := h.2.1
    rw [b98_9 hr _ _ _ _ _ _ _ _ (by intros; omega), if_neg (by omega), Int.toNat_natCast]
    unfold tz_wl
    by_cases hw : px_words.getD x 0 = 32
    · have hnext : px_X (d + 1 + 1) 98 (56, [vR 58, vI (q : Int), vI ((q + len : Nat) : Int), vI k, vI (b : Int), vI (x : Int)], []) (px_sh L, i, l, r, tt) = some (some (vI (tz_wl T q len n (k + 1) (x + 1) (x + 1))), (px_sh L, i, l, r, tt)) := by
        rw [b98_56 hr, show px_w32 (k + 1) = k + 1 from ty_w (by omega), show px_w32 ((x : Int) + 1) = ((x + 1 : Nat) : Int) by rw [ty_w (by omega)]; omega]
        exact tz_98_n hr d i l h q len hq n (k + 1) (x + 1) (x + 1) (by omega) (by omega) (by omega)
      rw [if_pos (by omega), if_pos hw, show px_w32 ((x : Int) - (b : Int)) = ((x - b : Nat) : Int) by rw [ty_w (by omega)]; omega, show px_w32 (((q + len : Nat) : Int) - (q : Int)) = (len : Int) by rw [ty_w (by omega)]; omega]
      by_cases hl : x - b = len
      · have h99 := tz_99_n (L := L) (tt := tt) hr (d) i l h q b x (by omega) len 0 (by omega) (by omega)
        rw [show ((b + 0 : Nat) : Int) = (b : Int) from rfl] at h99
        rw [if_pos (by omega), e99, b99_0 hr, h99, Option.bind_some, px_psh_some, b98_51 hr]
        by_cases hm : tz_mw T q b len 0 = true
        · rw [if_pos hm, if_neg (by omega), if_pos ⟨hl, hm⟩]
        · rw [if_neg hm, if_pos rfl, hnext, if_neg (fun g => hm g.2)]
      · rw [if_neg (by omega), hnext, if_neg (fun g => hl g.1)]
    · rw [if_neg (by omega), if_neg hw, show px_w32 ((x : Int) + 1) = ((x + 1 : Nat) : Int) by rw [ty_w (by omega)]; omega]
      exact tz_98_n hr d i l h q len hq n k b (x + 1) (by omega) (by omega) (by omega)
/-- numberOf -/
theorem tz_100_n (hr : px_hr r) {T : Int → Int} {N : Nat} (d : Nat) (i l : MI) (h : tz_tp T N i) (x1 : Int) (b : Nat) (hb : b ≤ N) : ∀ (n p : Nat) (a : Int), p + n = b → px_X (d + 1) 100 (5, [vR 58, vI x1, vI (b : Int), vI a, vI (p : Int)], []) (px_sh L, i, l, r, tt) = some (some (vI (tz_nm T n p a)), (px_sh L, i, l, r, tt))
  | 0, p, a, hn => by
    rw [b100_5 hr, if_pos (by omega)]
    rfl
  | n + 1, p, a, hn => by
    have h2 := h.2.1
    rw [b100_5 hr, if_neg (by omega), tz_33t hr _ _ _ h p (by omega), Option.bind_some, px_psh_some, b100_27 hr, show px_w32 ((p : Int) + 1) = ((p + 1 : Nat) : Int) by rw [ty_w (by omega)]; omega]
    exact tz_100_n hr d i l h x1 b hb n (p + 1) _ (by omega)
/-- kindOf -/
theorem tz_97 (hr : px_hr r) {T : Int → Int} {N : Nat} (d : Nat) (i l : MI) (h : tz_tp T N i) (q : Nat) (hq : q < N) : px_C (d + 1 + 1 + 1) 97 [vR 58, vI (q : Int), vI ((tz_be T N q : Nat) : Int)] (px_sh L, i, l, r, tt) = some (some (vI (tz_kd T N q)), (px_sh L, i, l, r, tt)) := by
  have h2 := h.2.1
  have hb := tz_be_b T hq
  rw [e97, b97_0 hr, tz_33t hr _ _ _ h q hq, Option.bind_some, px_psh_some, b97_8 hr, tz_95 hr, Option.bind_some, px_psh_some, b97_13 hr]
  unfold tz_kd
  by_cases hL : tz_L (T q) = true
  · have h98 := tz_98_n (L := L) (tt := tt) hr d i l h q (tz_be T N q - q) (by omega) 124 24 0 0 (by omega) (by omega) (by omega)
    rw [show q + (tz_be T N q - q) = tz_be T N q by omega, tz_wl_fi] at h98
    have h98' : px_C (d + 1 + 1) 98 [vR 58, vI (q : Int), vI ((tz_be T N q : Nat) : Int)] (px_sh L, i, l, r, tt) = some (some (vI (tz_fi T q (tz_be T N q - q) 24 (tz_tb 124 0 0))), (px_sh L, i, l, r, tt)) := by
      rw [e98, b98_0 hr]
      exact h98
    rw [if_pos hL, if_pos hL, if_neg (by omega), h98', Option.bind_some, px_psh_some, b97_22 hr]
  · rw [if_neg hL, if_neg hL, if_pos rfl, tz_96 hr, Option.bind_some, px_psh_some, b97_27 hr]
    by_cases hG : tz_G (T q) = true
    · rw [if_pos hG, if_pos hG, if_neg (by omega)]
    · rw [if_neg hG, if_neg hG, if_pos rfl]
      have e2 : (px_w32 (((tz_be T N q : Nat) : Int) - (q : Int)) = 2) = (decide (tz_be T N q = q + 2) = true) := by
        rw [ty_w (by omega), decide_eq_true_eq]
        exact propext (by omega)
      have eb : ∀ (c : Prop) [Decidable c] (P : Prop) [Decidable P] (a b : Int), (c = P) → (if c then some (some (vI a), (px_sh L, i, l, r, tt)) else some (some (vI b), (px_sh L, i, l, r, tt))) = some (some (vI (if P then a else b)), (px_sh L, i, l, r, tt)) := fun c _ P _ a b hc => by
        by_cases g : c
        · rw [if_pos g, if_pos (hc ▸ g)]
        · rw [if_neg g, if_neg (fun g2 => g (hc ▸ g2))]
      rw [eb _ (decide (tz_be T N q = q + 2) = true) 15 14 e2, eb _ (decide (tz_be T N q = q + 2) = true) 17 16 e2]
      obtain ⟨x, hx⟩ : ∃ x, x = T q := ⟨_, rfl⟩
      rw [← hx]
      unfold tz_sn
      by_cases c35 : x = 35
      · rw [if_pos c35, if_pos c35]
      rw [if_neg c35, if_neg c35]
      by_cases c1 : x = 36 ∨ x = 37 ∨ x = 38 ∨ x = 39
      · rcases c1 with rfl | rfl | rfl | rfl <;> rfl
      rw [if_neg (show ¬ x = 36 by omega), if_neg (show ¬ x = 37 by omega), if_neg (show ¬ x = 38 by omega), if_neg (show ¬ x = 39 by omega)]
      by_cases c40 : x = 40
      · rw [if_pos c40, if_pos c40]
      rw [if_neg c40, if_neg c40]
      by_cases c41 : x = 41
      · rw [if_pos c41, if_pos c41]
      rw [if_neg c41, if_neg c41]
      by_cases c42 : x = 42
      · rw [if_pos c42, if_pos c42]
      rw [if_neg c42, if_neg c42]
      by_cases c43 : x = 43
      · rw [if_pos c43, if_pos c43]
      rw [if_neg c43, if_neg c43]
      by_cases c44 : x = 44
      · subst c44; rfl
      rw [if_neg c44]
      by_cases c45 : x = 45
      · rw [if_pos c45, if_pos c45]
      rw [if_neg c45, if_neg c45]
      by_cases c46 : x = 46
      · subst c46; rfl
      rw [if_neg c46]
      by_cases c47 : x = 47
      · rw [if_pos c47, if_pos c47]
      rw [if_neg c47, if_neg c47]
      by_cases c2 : 48 ≤ x ∧ x ≤ 58
      · rw [if_neg (show ¬ x = 59 by omega), if_neg (show ¬ x = 60 by omega), if_neg (show ¬ x = 61 by omega), if_neg (show ¬ x = 62 by omega), if_neg (show ¬ x = 59 by omega), if_neg (show ¬ x = 60 by omega), if_neg (show ¬ x = 61 by omega), if_neg (show ¬ x = 62 by omega)]
        (repeat' split) <;> rfl
      rw [if_neg (show ¬ x = 48 by omega), if_neg (show ¬ x = 49 by omega), if_neg (show ¬ x = 50 by omega), if_neg (show ¬ x = 51 by omega), if_neg (show ¬ x = 52 by omega), if_neg (show ¬ x = 53 by omega), if_neg (show ¬ x = 54 by omega), if_neg (show ¬ x = 55 by omega), if_neg (show ¬ x = 56 by omega), if_neg (show ¬ x = 57 by omega), if_neg (show ¬ x = 58 by omega)]
      by_cases c59 : x = 59
      · rw [if_pos c59, if_pos c59]
      rw [if_neg c59, if_neg c59]
      by_cases c60 : x = 60
      · rw [if_pos c60, if_pos c60]
      rw [if_neg c60, if_neg c60]
      by_cases c61 : x = 61
      · rw [if_pos c61, if_pos c61]
      rw [if_neg c61, if_neg c61]
      by_cases c62 : x = 62
      · rw [if_pos c62, if_pos c62]
      rw [if_neg c62, if_neg c62]
end TYK1
