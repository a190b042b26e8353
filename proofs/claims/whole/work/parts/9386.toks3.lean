/-! text: next. -/
theorem tz_ib {x : Int} (h : 0 ≤ x ∧ x ≤ 255) : px_i2b x = if x < 128 then x else x - 256 := by
  rw [ty_i2b (by unfold px_r32; omega)]
  unfold Int.bmod
  have e : x % ((256 : Nat) : Int) = x := Int.emod_eq_of_lt h.1 (by omega)
  rw [e]
  by_cases g : x < 128
  · rw [if_pos g, if_pos (by omega)]
  · rw [if_neg g, if_neg (by omega)]
    omega
theorem tz_ib_L {x : Int} (h : 0 ≤ x ∧ x ≤ 255) : tz_L (px_i2b x) = tz_L x := by
  rw [tz_ib h]
  by_cases g : x < 128
  · rw [if_pos g]
  · rw [if_neg g]
    have h1 : tz_L (x - 256) = false := Bool.eq_false_iff.mpr (fun e => by
      have := tz_L_iff.mp e
      omega)
    have h2 : tz_L x = false := Bool.eq_false_iff.mpr (fun e => by
      have := tz_L_iff.mp e
      omega)
    rw [h1, h2]
theorem tz_ib_G {x : Int} (h : 0 ≤ x ∧ x ≤ 255) : tz_G (px_i2b x) = tz_G x := by
  rw [tz_ib h]
  by_cases g : x < 128
  · rw [if_pos g]
  · rw [if_neg g]
    have h1 : tz_G (x - 256) = false := Bool.eq_false_iff.mpr (fun e => by
      have := tz_G_iff.mp e
      omega)
    have h2 : tz_G x = false := Bool.eq_false_iff.mpr (fun e => by
      have := tz_G_iff.mp e
      omega)
    rw [h1, h2]
theorem tz_ib_e {x y : Int} (h : 0 ≤ x ∧ x ≤ 255) (hy : 0 ≤ y ∧ y < 128) : px_i2b x = y ↔ x = y := by
  rw [tz_ib h]
  by_cases g : x < 128
  · rw [if_pos g]
  · rw [if_neg g]
    omega
theorem tz_ib_id {x : Int} (h : 0 ≤ x ∧ x < 128) : px_i2b x = x := by
  rw [tz_ib (by omega), if_pos h.2]
theorem tz_cmp {x y : Int} : (px_cmp x y = 0) = (x = y) := by
  unfold px_cmp
  apply propext
  by_cases h1 : x < y
  · rw [if_pos h1]; omega
  · rw [if_neg h1]
    by_cases h2 : x = y
    · rw [if_pos h2]; omega
    · rw [if_neg h2]; omega
theorem tz_ifs {c : Prop} [Decidable c] {a b : Int} {s : PM} : (if c then some (some (vI a), s) else some (some (vI b), s)) = some (some (vI (if c then a else b)), s) := by
  by_cases h : c
  · rw [if_pos h, if_pos h]
  · rw [if_neg h, if_neg h]
theorem tz_p64 {k : Nat} (h : k ≤ 7) : (64 : Int) ^ k ≤ 4398046511104 := by
  rcases (by omega : k = 0 ∨ k = 1 ∨ k = 2 ∨ k = 3 ∨ k = 4 ∨ k = 5 ∨ k = 6 ∨ k = 7) with rfl | rfl | rfl | rfl | rfl | rfl | rfl | rfl <;> decide
theorem tz_sn_tkr {x y s u : Int} (hx : 0 ≤ x ∧ x ≤ 255) (h1 : x < 128 → y = x) (h2 : ¬ x < 128 → y = x - 256) (hs : s = if (59 ≤ y ∧ y ≤ 62) ∨ (40 ≤ y ∧ y ≤ 45) ∨ y = 47 ∨ y = 35 then 3 else 4) (hn : ¬ (x = 60 ∨ x = 62)) : tz_tkr (tz_sn x false) u s y := by
  have key : ∀ a : Int, x = a → 0 ≤ a → a < 128 → y = a := fun a e a0 a1 => by
    rw [h1 (by omega), e]
  unfold tz_sn
  by_cases c35 : x = 35
  · rw [if_pos c35]
    have e := key 35 c35 (by omega) (by omega)
    rw [e, if_pos (by omega)] at hs
    rw [e, hs]
    exact Or.inr (Or.inr (Or.inr (Or.inr ⟨rfl, by decide⟩)))
  rw [if_neg c35]
  by_cases c40 : x = 40
  · rw [if_pos c40]
    have e := key 40 c40 (by omega) (by omega)
    rw [e, if_pos (by omega)] at hs
    rw [e, hs]
    exact Or.inr (Or.inr (Or.inr (Or.inr ⟨rfl, by decide⟩)))
  rw [if_neg c40]
  by_cases c41 : x = 41
  · rw [if_pos c41]
    have e := key 41 c41 (by omega) (by omega)
    rw [e, if_pos (by omega)] at hs
    rw [e, hs]
    exact Or.inr (Or.inr (Or.inr (Or.inr ⟨rfl, by decide⟩)))
  rw [if_neg c41]
  by_cases c42 : x = 42
  · rw [if_pos c42]
    have e := key 42 c42 (by omega) (by omega)
    rw [e, if_pos (by omega)] at hs
    rw [e, hs]
    exact Or.inr (Or.inr (Or.inr (Or.inr ⟨rfl, by decide⟩)))
  rw [if_neg c42]
  by_cases c43 : x = 43
  · rw [if_pos c43]
    have e := key 43 c43 (by omega) (by omega)
    rw [e, if_pos (by omega)] at hs
    rw [e, hs]
    exact Or.inr (Or.inr (Or.inr (Or.inr ⟨rfl, by decide⟩)))
  rw [if_neg c43]
  by_cases c45 : x = 45
  · rw [if_pos c45]
    have e := key 45 c45 (by omega) (by omega)
    rw [e, if_pos (by omega)] at hs
    rw [e, hs]
    exact Or.inr (Or.inr (Or.inr (Or.inr ⟨rfl, by decide⟩)))
  rw [if_neg c45]
  by_cases c47 : x = 47
  · rw [if_pos c47]
    have e := key 47 c47 (by omega) (by omega)
    rw [e, if_pos (by omega)] at hs
    rw [e, hs]
    exact Or.inr (Or.inr (Or.inr (Or.inr ⟨rfl, by decide⟩)))
  rw [if_neg c47]
  by_cases c59 : x = 59
  · rw [if_pos c59]
    have e := key 59 c59 (by omega) (by omega)
    rw [e, if_pos (by omega)] at hs
    rw [e, hs]
    exact Or.inr (Or.inr (Or.inr (Or.inr ⟨rfl, by decide⟩)))
  rw [if_neg c59, if_neg (show ¬ x = 60 by omega)]
  by_cases c61 : x = 61
  · rw [if_pos c61]
    have e := key 61 c61 (by omega) (by omega)
    rw [e, if_pos (by omega)] at hs
    rw [e, hs]
    exact Or.inr (Or.inr (Or.inr (Or.inr ⟨rfl, by decide⟩)))
  rw [if_neg c61, if_neg (show ¬ x = 62 by omega)]
  refine Or.inr (Or.inl ⟨rfl, ?_⟩)
  by_cases c44 : x = 44
  · have e := key 44 c44 (by omega) (by omega)
    rw [e, if_pos (by omega)] at hs
    exact Or.inr ⟨hs, e⟩
  · rw [if_neg (by omega)] at hs
    exact Or.inl hs
theorem tz_re_app (f : Int → Bool) (T : Int → Int) (n p : Nat) : tz_re f T n p = p + (tz_re f T n p - p) := by
  have := (tz_re_b f T n p).1
  omega
section TYK3
variable {L tt : Nat} {r : MR}
theorem tz_156 (hr : px_hr r) (d : Nat) (i l : MI) (x : Int) : px_C (d + 1) 156 [vI x] (px_sh L, i, l, r, tt) = some (some (vI (if tz_L x = true then 1 else 0)), (px_sh L, i, l, r, tt)) := by
  have h := @tz_L_iff x
  rw [e156, b156_0 hr, q141 hr, Option.bind_some, px_psh_some, b156_8 hr]
  by_cases h1 : 97 ≤ x ∧ x ≤ 122
  · rw [px_bi_T h1, if_neg (by omega), if_pos (h.mpr (Or.inl h1))]
  · rw [px_bi_F h1, if_pos rfl, q141 hr, Option.bind_some, px_psh_some, b156_19 hr]
    by_cases h2 : 65 ≤ x ∧ x ≤ 90
    · rw [px_bi_T h2, if_neg (by omega), if_pos (h.mpr (Or.inr h2))]
    · rw [px_bi_F h2, if_pos rfl, if_neg (fun g => by
        rcases h.mp g with g | g
        · exact h1 g
        · exact h2 g)]
theorem tz_157 (hr : px_hr r) (d : Nat) (i l : MI) (x : Int) : px_C d 157 [vL x] (px_sh L, i, l, r, tt) = some (some (vI (tz_fz x 0 tz_cst)), (px_sh L, i, l, r, tt)) := by
  rw [e157, b157_0 hr]
  simp only [tz_cmp, tz_ifs]
  rfl
/-- the tape in the reference's memory -/
def tz_tr (T : Int → Int) (N : Nat) (j : MI) : Prop := j 123 14 = (N : Int) ∧ (N ≤ 300 ∧ ∀ x : Nat, x < N → 0 ≤ T (x : Int) ∧ T (x : Int) ≤ 255) ∧ ∀ x : Int, 0 ≤ x → x < (N : Int) → j 126 x = px_i2b (T x)
theorem tz_tr_q {T : Int → Int} {N : Nat} {Fs : List Int} {j j1 : MI} (h : tz_tr T N j) (hq : tz_q [] Fs j j1) (hf : Fs.all (fun f => decide (¬ f = 14)) = true) : tz_tr T N j1 := by
  have h126 : j1 126 = j 126 := hq.1 126 (by decide) (by decide)
  unfold tz_tr
  rw [h126, hq.2 14 (fun g => of_decide_eq_true (List.all_eq_true.mp hf 14 g) rfl)]
  exact h
theorem tz_158_s (hr : px_hr r) {T : Int → Int} {N : Nat} (d : Nat) (l : MI) : ∀ (n a : Nat) (j : MI), a + n = N → tz_tr T N j → j 123 15 = (a : Int) →
    ∃ j1 : MI, px_X d 158 (0, [vR 123, vJ, vJ, vJ, vJ], []) (px_sh L, j, l, r, tt) = px_X d 158 (52, [vR 123, vJ, vJ, vJ, vJ], []) (px_sh L, j1, l, r, tt) ∧ tz_q [] [15] j j1 ∧ j1 123 15 = ((tz_sk T n a : Nat) : Int)
  | 0, a, j, hn, ht, h15 => by
    have hb := b158_0 (L := L) (t := tt) hr d j l
    rw [ht.1, h15] at hb
    refine ⟨j, ?_, tz_q_rf, h15⟩
    rw [hb (by intros; omega) (by intros; omega), if_pos (by omega)]
  | n + 1, a, j, hn, ht, h15 => by
    have h300 := ht.2.1.1
    have hT := ht.2.1.2 a (by omega)
    have hb := b158_0 (L := L) (t := tt) hr d j l
    rw [ht.1, h15, ht.2.2 (a : Int) (by omega) (by omega)] at hb
    have hb := hb (by intros; omega) (by intros; omega)
    rw [if_neg (by omega)] at hb
    unfold tz_sk
    have go : ∃ j1 : MI, px_X d 158 (39, [vR 123, vJ, vJ, vJ, vJ], []) (px_sh L, j, l, r, tt) = px_X d 158 (52, [vR 123, vJ, vJ, vJ, vJ], []) (px_sh L, j1, l, r, tt) ∧ tz_q [] [15] j j1 ∧ j1 123 15 = ((tz_sk T n (a + 1) : Nat) : Int) := by
      have q1 : tz_q [] [15] j (px_up j 123 15 ((a + 1 : Nat) : Int)) := tz_q_f (by decide)
      obtain ⟨j1, r1, q2, e1⟩ := tz_158_s hr d l n (a + 1) (px_up j 123 15 ((a + 1 : Nat) : Int)) (by omega) (tz_tr_q ht q1 rfl) ty_up_eq
      refine ⟨j1, ?_, tz_q_tr q1 q2 rfl rfl rfl rfl, e1⟩
      rw [b158_39 hr, h15, show px_w32 ((a : Int) + 1) = ((a + 1 : Nat) : Int) by rw [ty_w (by omega)]; omega, r1]
    by_cases h32 : T a = 32
    · rw [if_pos (Or.inl h32), hb, if_pos ((tz_ib_e hT (by omega)).mpr h32)]
      exact go
    · rw [hb, if_neg (fun g => h32 ((tz_ib_e hT (by omega)).mp g))]
      by_cases h10 : T a = 10
      · rw [if_pos ((tz_ib_e hT (by omega)).mpr h10), if_pos (Or.inr h10)]
        exact go
      · rw [if_neg (fun g => h10 ((tz_ib_e hT (by omega)).mp g)), if_neg (show ¬ (T (a : Int) = 32 ∨ T (a : Int) = 10) from fun g => by
          rcases g with g | g
          · exact h32 g
          · exact h10 g)]
        exact ⟨j, rfl, tz_q_rf, h15⟩
theorem tz_158_l (hr : px_hr r) {T : Int → Int} {N : Nat} (d : Nat) (l : MI) (x1 : Int) (q : Nat) : ∀ (n p : Nat) (x2 : Int) (j : MI), p + n = N → q ≤ p → tz_tr T N j → j 123 15 = (p : Int) → (∀ x, q ≤ x → x < p → tz_L (T (x : Nat)) = true) → (p - q ≤ 8 → x2 = tz_ln (tz_rv T q (p - q))) →
    ∃ (j1 : MI) (x2' : Int), px_X (d + 1 + 1) 158 (99, [vR 123, vI x1, vL x2, vJ, vI ((p - q : Nat) : Int)], []) (px_sh L, j, l, r, tt) = px_X (d + 1 + 1) 158 (173, [vR 123, vI x1, vL x2', vJ, vI ((tz_re tz_L T n p - q : Nat) : Int)], []) (px_sh L, j1, l, r, tt) ∧ tz_q [] [15] j j1 ∧ j1 123 15 = ((tz_re tz_L T n p : Nat) : Int) ∧ (tz_re tz_L T n p - q ≤ 8 → x2' = tz_ln (tz_rv T q (tz_re tz_L T n p - q)))
  | 0, p, x2, j, hn, hqp, ht, h15, hL, hx => by
    have hb := b158_99 (L := L) (t := tt) hr (d + 1) j l x1 x2 ((p - q : Nat) : Int)
    rw [ht.1, h15] at hb
    refine ⟨j, x2, ?_, tz_q_rf, h15, hx⟩
    rw [hb (by intros; omega), if_pos (by omega)]
    rfl
  | n + 1, p, x2, j, hn, hqp, ht, h15, hL, hx => by
    have h300 := ht.2.1.1
    have hT := ht.2.1.2 p (by omega)
    have h126 := ht.2.2 (p : Int) (by omega) (by omega)
    have hb := b158_99 (L := L) (t := tt) hr (d + 1) j l x1 x2 ((p - q : Nat) : Int)
    rw [ht.1, h15, h126] at hb
    have hb2 := fun xs0 => b158_122 (L := L) (t := tt) hr (d + 1 + 1) j l x1 x2 ((p - q : Nat) : Int) xs0
    rw [h15, h126] at hb2
    rw [hb (by intros; omega), if_neg (by omega), tz_156 hr, tz_ib_L hT, Option.bind_some, px_psh_some, hb2 _ (by intros; omega)]
    unfold tz_re
    by_cases hl : tz_L (T p) = true
    · have hlt := tz_L_iff.mp hl
      have q1 : tz_q [] [15] j (px_up j 123 15 ((p + 1 : Nat) : Int)) := tz_q_f (by decide)
      have hL' : ∀ x, q ≤ x → x < p + 1 → tz_L (T (x : Nat)) = true := fun x x0 x1 => by
        by_cases e : x = p
        · rw [e]
          exact hl
        · exact hL x x0 (by omega)
      have e1 : p + 1 - q = (p - q) + 1 := by omega
      have e2 : q + (p - q) = p := by omega
      rw [if_pos hl, if_neg (by decide), if_pos hl]
      by_cases h8 : 8 ≤ p - q
      · obtain ⟨j1, x2', r1, q2, e3, e4⟩ := tz_158_l hr d l x1 q n (p + 1) x2 (px_up j 123 15 ((p + 1 : Nat) : Int)) (by omega) (by omega) (tz_tr_q ht q1 rfl) ty_up_eq hL' (fun g => by omega)
        refine ⟨j1, x2', ?_, tz_q_tr q1 q2 rfl rfl rfl rfl, e3, e4⟩
        rw [if_pos (by omega), b158_156 hr, h15, show px_w32 ((p : Int) + 1) = ((p + 1 : Nat) : Int) by rw [ty_w (by omega)]; omega, show px_w32 (((p - q : Nat) : Int) + 1) = ((p + 1 - q : Nat) : Int) by rw [ty_w (by omega)]; omega, r1]
      · have hx2 := hx (by omega)
        have hrl := tz_rv_lt T q (p - q) (fun x x0 x1 => hL x x0 (by omega))
        have hb0 := (tz_ln_b _ hrl).1
        have hble := tz_ln_le _ hrl (by rw [tz_rv_len]; omega)
        rw [tz_rv_len, ← hx2] at hble
        rw [← hx2] at hb0
        have hp8 := tz_p64 (k := p - q) (by omega)
        have hid : px_i2b (T p) = T p := tz_ib_id (by omega)
        have hw : px_w64 (px_w64 (px_w64 (64 * x2) + T p) - 64) = 64 * x2 + (T p - 64) := by
          rw [ty_w6 (x := 64 * x2) (by omega), ty_w6 (x := 64 * x2 + T p) (by omega), ty_w6 (by omega)]
          omega
        obtain ⟨j1, x2', r1, q2, e3, e4⟩ := tz_158_l hr d l x1 q n (p + 1) (64 * x2 + (T p - 64)) (px_up j 123 15 ((p + 1 : Nat) : Int)) (by clear hw; omega) (by clear hw; omega) (tz_tr_q ht q1 rfl) ty_up_eq hL' (fun _ => by
          rw [e1]
          unfold tz_rv
          rw [e2]
          unfold tz_ln
          rw [← hx2])
        refine ⟨j1, x2', ?_, tz_q_tr q1 q2 rfl rfl rfl rfl, e3, e4⟩
        rw [if_neg (by omega), hid, hw, b158_156 hr, h15, show px_w32 ((p : Int) + 1) = ((p + 1 : Nat) : Int) by rw [ty_w (by omega)]; omega, show px_w32 (((p - q : Nat) : Int) + 1) = ((p + 1 - q : Nat) : Int) by rw [ty_w (by omega)]; omega, r1]
    · rw [if_neg hl, if_pos rfl, if_neg hl]
      exact ⟨j, x2, rfl, tz_q_rf, h15, hx⟩
theorem tz_158_d (hr : px_hr r) {T : Int → Int} {N : Nat} (d : Nat) (l : MI) (x1 : Int) : ∀ (n p : Nat) (v : Int) (j : MI), p + n = N → tz_tr T N j → j 123 15 = (p : Int) → j 123 18 = v → 0 ≤ v ∧ v ≤ 999999 →
    ∃ j1 : MI, px_X (d + 1) 158 (232, [vR 123, vI x1, vJ, vJ, vJ], []) (px_sh L, j, l, r, tt) = some (none, (px_sh L, j1, l, r, tt)) ∧ tz_q [] [15, 18] j j1 ∧ j1 123 15 = ((tz_re tz_G T n p : Nat) : Int) ∧ j1 123 18 = tz_nv T (tz_re tz_G T n p - p) p v
  | 0, p, v, j, hn, ht, h15, h18, hv => by
    have hb := b158_232 (L := L) (t := tt) hr d j l x1
    rw [ht.1, h15] at hb
    have e : tz_re tz_G T 0 p - p = 0 := Nat.sub_self p
    refine ⟨j, ?_, tz_q_rf, h15, ?_⟩
    · rw [hb (by intros; omega), if_pos (by omega)]
    · rw [e]
      exact h18
  | n + 1, p, v, j, hn, ht, h15, h18, hv => by
    have h300 := ht.2.1.1
    have hT := ht.2.1.2 p (by omega)
    have h126 := ht.2.2 (p : Int) (by omega) (by omega)
    have hb := b158_232 (L := L) (t := tt) hr d j l x1
    rw [ht.1, h15, h126] at hb
    have hb2 := fun xs0 => b158_259 (L := L) (t := tt) hr (d + 1) j l x1 xs0
    rw [h15, h18, h126] at hb2
    have hbi : px_bi (48 ≤ px_i2b (T p) ∧ px_i2b (T p) ≤ 57) = if tz_G (T p) = true then 1 else 0 := by
      have e1 : (48 ≤ px_i2b (T p) ∧ px_i2b (T p) ≤ 57) ↔ tz_G (T p) = true := by
        rw [← tz_ib_G hT]
        exact tz_G_iff.symm
      rw [px_bi_c e1]
      by_cases g : tz_G (T p) = true
      · rw [px_bi_T g, if_pos g]
      · rw [px_bi_F g, if_neg g]
    rw [hb (by intros; omega), if_neg (by omega), q141 hr, hbi, Option.bind_some, px_psh_some, hb2 _ (by intros; omega)]
    unfold tz_re
    by_cases hg : tz_G (T p) = true
    · have hgt := tz_G_iff.mp hg
      have hid : px_i2b (T p) = T p := tz_ib_id (by omega)
      obtain ⟨v', hv'⟩ : ∃ v', v' = if v ≤ 99999 then 10 * v + T p - 48 else v := ⟨_, rfl⟩
      have hvb : 0 ≤ v' ∧ v' ≤ 999999 := by
        rw [hv']
        split <;> omega
      have q1 : tz_q [] [15, 18] j (px_up (px_up j 123 18 v') 123 15 ((p + 1 : Nat) : Int)) := tz_q_tr (tz_q_f (Kc := []) (Fs := [18]) (by decide)) (tz_q_f (Kc := []) (Fs := [15]) (by decide)) rfl rfl rfl rfl
      obtain ⟨j1, r1, q2, e3, e4⟩ := tz_158_d hr d l x1 n (p + 1) v' (px_up (px_up j 123 18 v') 123 15 ((p + 1 : Nat) : Int)) (by omega) (tz_tr_q ht q1 rfl) ty_up_eq (by rw [ty_up_j (by decide), ty_up_eq]) hvb
      have hre := tz_re_b tz_G T n (p + 1)
      have e5 : tz_re tz_G T n (p + 1) - p = (tz_re tz_G T n (p + 1) - (p + 1)) + 1 := by omega
      rw [if_pos hg, if_neg (by decide), if_pos hg]
      refine ⟨j1, ?_, tz_q_tr q1 q2 rfl rfl rfl rfl, e3, ?_⟩
      · have h299 : px_X (d + 1) 158 (299, [vR 123, vI x1, vJ, vJ, vJ], [vI v', vR 123]) (px_sh L, j, l, r, tt) = some (none, (px_sh L, j1, l, r, tt)) := by
          rw [b158_299 hr, h15, show px_w32 ((p : Int) + 1) = ((p + 1 : Nat) : Int) by rw [ty_w (by omega)]; omega, r1]
        by_cases h9 : v ≤ 99999
        · rw [if_pos h9] at hv'
          rw [if_pos h9, hid, show px_w32 (px_w32 (px_w32 (10 * v) + T p) - 48) = 10 * v + T p - 48 by rw [ty_w (x := 10 * v) (by omega), ty_w (x := 10 * v + T p) (by omega), ty_w (by omega)], ← hv']
          exact h299
        · rw [if_neg h9] at hv'
          rw [if_neg h9, ← hv']
          exact h299
      · rw [e4, e5, hv']
        rfl
    · rw [if_neg hg, if_pos rfl, if_neg hg, Nat.sub_self]
      exact ⟨j, rfl, tz_q_rf, h15, h18⟩
/-- next, from a place -/
theorem tz_158 (hr : px_hr r) {T : Int → Int} {N : Nat} (d : Nat) (j l : MI) (a : Nat) (ha : a ≤ N) (ht : tz_tr T N j) (h15 : j 123 15 = (a : Int)) :
    ∃ j1 : MI, px_C (d + 3) 158 [vR 123] (px_sh L, j, l, r, tt) = some (none, (px_sh L, j1, l, r, tt)) ∧ tz_q [] [15, 16, 17, 18] j j1 ∧ j1 123 16 = ((tz_sk T (N - a) a : Nat) : Int) ∧
      (tz_sk T (N - a) a = N ∧ j1 123 15 = (N : Int) ∧ j1 123 17 = 0 ∨ tz_sk T (N - a) a < N ∧ j1 123 15 = ((tz_be T N (tz_sk T (N - a) a) : Nat) : Int) ∧ tz_tkr (tz_kd T N (tz_sk T (N - a) a)) (tz_nm T (tz_be T N (tz_sk T (N - a) a) - tz_sk T (N - a) a) (tz_sk T (N - a) a) 0) (j1 123 17) (j1 123 18)) := by
  have h300 := ht.2.1.1
  obtain ⟨js, rs, qs, es⟩ := tz_158_s (L := L) (r := r) (tt := tt) hr (d + 3) l (N - a) a j (by omega) ht h15
  have hb := tz_sk_b T (N - a) a
  obtain ⟨p, hp⟩ : ∃ p, p = tz_sk T (N - a) a := ⟨_, rfl⟩
  have hts := tz_tr_q ht qs rfl
  rw [← hp] at es hb ⊢
  rw [e158, rs]
  have hb52 := b158_52 (L := L) (t := tt) hr (d + 2) js l
  rw [es, hts.1] at hb52
  have hb52 := hb52 (by intros; omega)
  show ∃ j1 : MI, px_X (d + 2 + 1) 158 _ _ = _ ∧ _
  rw [hb52]
  by_cases hpN : p = N
  · rw [if_pos (by omega)]
    refine ⟨px_up (px_up js 123 16 (p : Int)) 123 17 0, rfl, ?_, ?_, Or.inl ⟨hpN, ?_, ty_up_eq⟩⟩
    · exact tz_q_tr qs (tz_q_tr (tz_q_f (Kc := []) (Fs := [16]) (by decide)) (tz_q_f (Kc := []) (Fs := [17]) (by decide)) (Kc'' := []) (Fs'' := [16, 17]) rfl rfl rfl rfl) rfl rfl rfl rfl
    · rw [ty_up_j (by decide), ty_up_eq]
    · rw [ty_up_j (by decide), ty_up_j (by decide), es, hpN]
  · have hlt : p < N := by omega
    have hT := ht.2.1.2 p hlt
    have h126 : js 126 (p : Int) = px_i2b (T p) := hts.2.2 (p : Int) (by omega) (by omega)
    have hbe := tz_be_b T hlt
    rw [if_neg (by omega), h126]
    obtain ⟨jt, hjt⟩ : ∃ jt : MI, jt = px_up js 123 16 (p : Int) := ⟨_, rfl⟩
    rw [← hjt]
    have qt : tz_q [] [15, 16] j jt := by
      rw [hjt]
      exact tz_q_tr qs (tz_q_f (Kc := []) (Fs := [16]) (by decide)) rfl rfl rfl rfl
    have htt := tz_tr_q ht qt rfl
    have t15 : jt 123 15 = (p : Int) := by rw [hjt, ty_up_j (by decide), es]
    have t16 : jt 123 16 = (p : Int) := by rw [hjt, ty_up_eq]
    have h156 := tz_156 (L := L) (r := r) (tt := tt) hr (d + 1) jt l (px_i2b (T p))
    rw [tz_ib_L hT] at h156
    rw [show d + 2 = d + 1 + 1 from rfl, h156, Option.bind_some, px_psh_some, b158_91 hr]
    unfold tz_kd
    by_cases hL : tz_L (T p) = true
    · -- a word
      obtain ⟨len, hlen⟩ : ∃ len, len = tz_be T N p - p := ⟨_, rfl⟩
      have hre : tz_be T N p = tz_re tz_L T (N - p) p := by
        unfold tz_be
        rw [if_pos hL]
      obtain ⟨j1, x2, r1, q1, e1, e2⟩ := tz_158_l (L := L) (r := r) (tt := tt) hr (d + 1) l (px_i2b (T p)) p (N - p) p 0 jt (by omega) (Nat.le_refl _) htt t15 (fun x x0 x1 => by omega) (fun _ => by rw [Nat.sub_self]; rfl)
      rw [← hre] at e1 e2 r1
      rw [Nat.sub_self, show ((0 : Nat) : Int) = 0 from rfl] at r1
      rw [← hlen] at r1 e2 ⊢
      have hq1 : tz_q [] [15, 16] j j1 := tz_q_tr qt q1 rfl rfl rfl rfl
      rw [if_pos hL, if_neg (by decide), if_pos hL]
      have hw : tz_lt (tz_rv T p len) := tz_rv_lt T p len (fun x x0 x1 => tz_re_in tz_L T (N - p) p x x0 (by rw [← hre]; omega))
      have fin : ∀ v : Int, (v = -1 ∧ tz_fi T p len 24 (tz_tb 124 0 0) = 1 ∨ 0 ≤ v ∧ v < 24 ∧ tz_fi T p len 24 (tz_tb 124 0 0) = v + 24) → ∃ j2 : MI, px_X (d + 1 + 1 + 1) 158 (189, [vR 123, vI (px_i2b (T p)), vL x2, vJ, vI (len : Int)], [vI v, vR 123]) (px_sh L, j1, l, r, tt) = some (none, (px_sh L, j2, l, r, tt)) ∧ tz_q [] [15, 16, 17, 18] j j2 ∧ j2 123 16 = (p : Int) ∧ (p = N ∧ j2 123 15 = (N : Int) ∧ j2 123 17 = 0 ∨ p < N ∧ j2 123 15 = ((tz_be T N p : Nat) : Int) ∧ tz_tkr (tz_fi T p len 24 (tz_tb 124 0 0)) (tz_nm T len p 0) (j2 123 17) (j2 123 18)) := fun v hv => by
        have q2 : ∀ s : Int, tz_q [] [15, 16, 17, 18] j (px_up (px_up j1 123 18 v) 123 17 s) := fun s => tz_q_tr hq1 (tz_q_tr (tz_q_f (Kc := []) (Fs := [18]) (by decide)) (tz_q_f (Kc := []) (Fs := [17]) (by decide)) (Kc'' := []) (Fs'' := [17, 18]) rfl rfl rfl rfl) rfl rfl rfl rfl
        have f16 : ∀ s : Int, (px_up (px_up j1 123 18 v) 123 17 s) 123 16 = (p : Int) := fun s => by rw [ty_up_j (by decide), ty_up_j (by decide), q1.2 16 (by decide), t16]
        have f15 : ∀ s : Int, (px_up (px_up j1 123 18 v) 123 17 s) 123 15 = ((tz_be T N p : Nat) : Int) := fun s => by rw [ty_up_j (by decide), ty_up_j (by decide), e1]
        have f18 : ∀ s : Int, (px_up (px_up j1 123 18 v) 123 17 s) 123 18 = v := fun s => by rw [ty_up_j (by decide), ty_up_eq]
        rw [b158_189 hr]
        rcases hv with ⟨g1, g2⟩ | ⟨g1, g2, g3⟩
        · rw [if_neg (by omega)]
          refine ⟨_, rfl, q2 4, f16 4, Or.inr ⟨hlt, f15 4, ?_⟩⟩
          rw [g2, ty_up_eq]
          exact Or.inr (Or.inl ⟨rfl, Or.inl rfl⟩)
        · rw [if_pos g1]
          refine ⟨_, rfl, q2 1, f16 1, Or.inr ⟨hlt, f15 1, ?_⟩⟩
          rw [g3, ty_up_eq, f18]
          exact Or.inr (Or.inr (Or.inr (Or.inl ⟨by omega, by omega, rfl, by omega⟩)))
      rw [r1, b158_173 hr]
      by_cases h7 : len ≤ 7
      · have hx := e2 (by omega)
        have hword := tz_word T p len hw
        have hfz := tz_fz_b (tz_ln (tz_rv T p len)) tz_cst 0
        have hcl : tz_cst.length = 24 := rfl
        rw [hcl] at hfz
        rw [if_pos (by omega), tz_157 hr, hx, Option.bind_some, px_psh_some]
        rw [hx] at fin
        refine fin _ ?_
        by_cases g : tz_fz (tz_ln (tz_rv T p len)) 0 tz_cst = -1
        · rw [if_pos g] at hword
          exact Or.inl ⟨g, hword⟩
        · rw [if_neg g] at hword
          exact Or.inr ⟨by omega, by omega, hword⟩
      · rw [if_neg (by omega)]
        exact fin _ (Or.inl ⟨rfl, tz_word_long T p len (by omega)⟩)
    · rw [if_neg hL, if_pos rfl, if_neg hL]
      have hbi : px_bi (48 ≤ px_i2b (T p) ∧ px_i2b (T p) ≤ 57) = if tz_G (T p) = true then 1 else 0 := by
        have e1 : (48 ≤ px_i2b (T p) ∧ px_i2b (T p) ≤ 57) ↔ tz_G (T p) = true := by
          rw [← tz_ib_G hT]
          exact tz_G_iff.symm
        rw [px_bi_c e1]
        by_cases g : tz_G (T p) = true
        · rw [px_bi_T g, if_pos g]
        · rw [px_bi_F g, if_neg g]
      rw [q141 hr, hbi, Option.bind_some, px_psh_some, b158_219 hr]
      by_cases hG : tz_G (T p) = true
      · -- a number
        rw [if_pos hG, if_neg (by decide), if_pos hG]
        have hre : tz_be T N p = tz_re tz_G T (N - p) p := by
          unfold tz_be
          rw [if_neg hL, if_pos hG]
        obtain ⟨jn, hjn⟩ : ∃ jn : MI, jn = px_up (px_up jt 123 17 2) 123 18 0 := ⟨_, rfl⟩
        rw [← hjn]
        have qn : tz_q [] [17, 18] jt jn := by
          rw [hjn]
          exact tz_q_tr (tz_q_f (Kc := []) (Fs := [17]) (by decide)) (tz_q_f (Kc := []) (Fs := [18]) (by decide)) rfl rfl rfl rfl
        obtain ⟨j1, r1, q1, e1, e2⟩ := tz_158_d (L := L) (r := r) (tt := tt) hr (d + 2) l (px_i2b (T p)) (N - p) p 0 jn (by omega) (tz_tr_q htt qn rfl) (by rw [hjn, ty_up_j (by decide), ty_up_j (by decide), t15]) (by rw [hjn, ty_up_eq]) (by omega)
        rw [← hre] at e1 e2
        refine ⟨j1, r1, tz_q_tr qt (tz_q_tr qn q1 (Kc'' := []) (Fs'' := [15, 17, 18]) rfl rfl rfl rfl) rfl rfl rfl rfl, ?_, Or.inr ⟨hlt, e1, ?_⟩⟩
        · rw [q1.2 16 (by decide), qn.2 16 (by decide), t16]
        · have hnr := tz_nr_n T (tz_be T N p - p) p 0 0 (fun x x0 x1 => tz_re_in tz_G T (N - p) p x x0 (by rw [← hre]; omega)) ⟨by omega, by omega, Or.inl ⟨by omega, rfl⟩⟩
          obtain ⟨h1, h2, h3⟩ := hnr
          rw [q1.2 17 (by decide), hjn, ty_up_j (by decide), ty_up_eq, e2]
          refine Or.inr (Or.inr (Or.inl ⟨rfl, rfl, h1, ?_⟩))
          rcases h3 with ⟨g1, g2⟩ | ⟨g1, g2⟩
          · exact Or.inl ⟨g1, g2⟩
          · exact Or.inr ⟨by omega, g2⟩
      · -- a sign
        rw [if_neg hG, if_pos rfl, if_neg hG, t15, show px_w32 ((p : Int) + 1) = ((p + 1 : Nat) : Int) by rw [ty_w (by omega)]; omega]
        obtain ⟨y, hy⟩ : ∃ y, y = px_i2b (T p) := ⟨_, rfl⟩
        rw [← hy]
        obtain ⟨jn, hjn⟩ : ∃ jn : MI, jn = px_up (px_up jt 123 15 ((p + 1 : Nat) : Int)) 123 18 y := ⟨_, rfl⟩
        rw [← hjn]
        have qn : tz_q [] [15, 18] jt jn := by
          rw [hjn]
          exact tz_q_tr (tz_q_f (Kc := []) (Fs := [15]) (by decide)) (tz_q_f (Kc := []) (Fs := [18]) (by decide)) rfl rfl rfl rfl
        have n15 : jn 123 15 = ((p + 1 : Nat) : Int) := by rw [hjn, ty_up_j (by decide), ty_up_eq]
        have n16 : jn 123 16 = (p : Int) := by rw [qn.2 16 (by decide), t16]
        have n18 : jn 123 18 = y := by rw [hjn, ty_up_eq]
        have hxy : (T p < 128 → y = T p) ∧ (¬ T p < 128 → y = T p - 256) := by
          rw [hy, tz_ib hT]
          constructor
          · intro g
            rw [if_pos g]
          · intro g
            rw [if_neg g]
        have hbe' : tz_be T N p = if (T p = 60 ∨ T p = 62) ∧ p + 1 < N ∧ T ((p + 1 : Nat) : Int) = 61 then p + 2 else p + 1 := by
          unfold tz_be
          rw [if_neg hL, if_neg hG]
        -- the sort
        obtain ⟨s, hs⟩ : ∃ s : Int, s = if (59 ≤ y ∧ y ≤ 62) ∨ (40 ≤ y ∧ y ≤ 45) ∨ y = 47 ∨ y = 35 then 3 else 4 := ⟨_, rfl⟩
        have e370 : ∀ s' : Int, s' = s → px_X (d + 1 + 1 + 1) 158 (370, [vR 123, vI y, vJ, vJ, vJ], [vI s', vR 123]) (px_sh L, jn, l, r, tt) = px_X (d + 1 + 1 + 1) 158 (370, [vR 123, vI y, vJ, vJ, vJ], [vI s, vR 123]) (px_sh L, jn, l, r, tt) := fun s' h => by rw [h]
        have go : (px_C (d + 1 + 1) 141 [vI y, vI 59, vI 62] (px_sh L, jn, l, r, tt)).bind (fun q => px_X (d + 1 + 1 + 1) 158 (px_psh (339, [vR 123, vI y, vJ, vJ, vJ], [vR 123]) q.1) q.2) = px_X (d + 1 + 1 + 1) 158 (370, [vR 123, vI y, vJ, vJ, vJ], [vI s, vR 123]) (px_sh L, jn, l, r, tt) := by
          rw [q141 hr, Option.bind_some, px_psh_some, b158_339 hr]
          by_cases g1 : 59 ≤ y ∧ y ≤ 62
          · rw [px_bi_T g1, if_neg (by omega), b158_365 hr]
            exact e370 3 (by rw [hs, if_pos (Or.inl g1)])
          · rw [px_bi_F g1, if_pos rfl, q141 hr, Option.bind_some, px_psh_some, b158_350 hr]
            by_cases g2 : 40 ≤ y ∧ y ≤ 45
            · rw [px_bi_T g2, if_neg (by omega), b158_365 hr]
              exact e370 3 (by rw [hs, if_pos (Or.inr (Or.inl g2))])
            · rw [px_bi_F g2, if_pos rfl]
              by_cases g3 : y = 47
              · rw [if_pos g3, b158_365 hr]
                exact e370 3 (by rw [hs, if_pos (Or.inr (Or.inr (Or.inl g3)))])
              · rw [if_neg g3]
                by_cases g4 : y = 35
                · rw [if_pos g4, b158_365 hr]
                  exact e370 3 (by rw [hs, if_pos (Or.inr (Or.inr (Or.inr g4)))])
                · rw [if_neg g4]
                  exact e370 4 (by rw [hs, if_neg (fun g => by
                    rcases g with g | g | g | g
                    · exact g1 g
                    · exact g2 g
                    · exact g3 g
                    · exact g4 g)])
        rw [go, b158_370 hr]
        obtain ⟨jm, hjm⟩ : ∃ jm : MI, jm = px_up jn 123 17 s := ⟨_, rfl⟩
        rw [← hjm]
        have qm : tz_q [] [15, 17, 18] jt jm := by
          rw [hjm]
          exact tz_q_tr qn (tz_q_f (Kc := []) (Fs := [17]) (by decide)) rfl rfl rfl rfl
        have m15 : jm 123 15 = ((p + 1 : Nat) : Int) := by rw [hjm, ty_up_j (by decide), n15]
        have m16 : jm 123 16 = (p : Int) := by rw [hjm, ty_up_j (by decide), n16]
        have m17 : jm 123 17 = s := by rw [hjm, ty_up_eq]
        have m18 : jm 123 18 = y := by rw [hjm, ty_up_j (by decide), n18]
        have qjm : tz_q [] [15, 16, 17, 18] j jm := tz_q_tr qt qm rfl rfl rfl rfl
        clear go e370 hb52 rs h156 hbi
        have res1 : ¬ ((T p = 60 ∨ T p = 62) ∧ p + 1 < N ∧ T ((p + 1 : Nat) : Int) = 61) → (∀ u : Int, tz_tkr (tz_sn (T p) false) u s y) → tz_q [] [15, 16, 17, 18] j jm ∧ jm 123 16 = (p : Int) ∧ (p = N ∧ jm 123 15 = (N : Int) ∧ jm 123 17 = 0 ∨ p < N ∧ jm 123 15 = ((tz_be T N p : Nat) : Int) ∧ tz_tkr (tz_sn (T p) (decide (tz_be T N p = p + 2))) (tz_nm T (tz_be T N p - p) p 0) (jm 123 17) (jm 123 18)) := fun g1 g2 => by
          rw [if_neg g1] at hbe'
          refine ⟨qjm, m16, Or.inr ⟨hlt, by rw [m15, hbe'], ?_⟩⟩
          rw [m17, m18, hbe', decide_eq_false (show ¬ p + 1 = p + 2 by omega)]
          exact g2 _
        have t0 : ∀ u : Int, ¬ (T p = 60 ∨ T p = 62) → tz_tkr (tz_sn (T p) false) u s y := fun u hn => tz_sn_tkr hT hxy.1 hxy.2 hs hn
        by_cases h60 : T p = 60
        · have hy60 : y = 60 := by rw [hxy.1 (by omega)]; exact h60
          have hs3 : s = 3 := by rw [hs, if_pos (by omega)]
          rw [if_pos hy60]
          have hb385 := b158_385 (L := L) (t := tt) hr (d + 1 + 1 + 1) jm l y
          have hmN : jm 123 14 = (N : Int) := by rw [qjm.2 14 (by decide)]; exact ht.1
          rw [m15, hmN] at hb385
          have hb385 := hb385 (by intros; omega)
          rw [hb385]
          by_cases hN1 : p + 1 < N
          · have hT1 := ht.2.1.2 (p + 1) hN1
            have m126 : jm 126 ((p + 1 : Nat) : Int) = px_i2b (T ((p + 1 : Nat) : Int)) := by
              rw [qjm.1 126 (by decide) (by decide)]
              exact ht.2.2 _ (by omega) (by omega)
            rw [if_neg (by omega), m126]
            by_cases h61 : T ((p + 1 : Nat) : Int) = 61
            · rw [if_pos ((tz_ib_e hT1 (by omega)).mpr h61), if_pos hy60, b158_426 hr, m15, show px_w32 (((p + 1 : Nat) : Int) + 1) = ((p + 2 : Nat) : Int) by rw [ty_w (by omega)]; omega]
              rw [if_pos ⟨Or.inl h60, hN1, h61⟩] at hbe'
              refine ⟨_, rfl, tz_q_tr qjm (tz_q_tr (tz_q_f (Kc := []) (Fs := [18]) (by decide)) (tz_q_f (Kc := []) (Fs := [15]) (by decide)) (Kc'' := []) (Fs'' := [15, 18]) rfl rfl rfl rfl) rfl rfl rfl rfl, ?_, Or.inr ⟨hlt, ?_, ?_⟩⟩
              · rw [ty_up_j (by decide), ty_up_j (by decide), m16]
              · rw [ty_up_eq, hbe']
              · rw [ty_up_j (by decide), ty_up_j (by decide), m17, ty_up_j (by decide), ty_up_eq, hbe', decide_eq_true rfl, h60, hs3]
                exact Or.inr (Or.inr (Or.inr (Or.inr ⟨rfl, by decide⟩)))
            · rw [if_neg (fun g => h61 ((tz_ib_e hT1 (by omega)).mp g))]
              refine ⟨jm, rfl, res1 (fun g => h61 g.2.2) (fun u => ?_)⟩
              rw [h60, hs3, hy60]
              exact Or.inr (Or.inr (Or.inr (Or.inr ⟨rfl, by decide⟩)))
          · rw [if_pos (by omega)]
            refine ⟨jm, rfl, res1 (fun g => hN1 g.2.1) (fun u => ?_)⟩
            rw [h60, hs3, hy60]
            exact Or.inr (Or.inr (Or.inr (Or.inr ⟨rfl, by decide⟩)))
        · have hy60 : ¬ y = 60 := by
            rw [hy]
            exact fun g => h60 ((tz_ib_e hT (by omega)).mp g)
          rw [if_neg hy60]
          by_cases h62 : T p = 62
          · have hy62 : y = 62 := by rw [hxy.1 (by omega)]; exact h62
            have hs3 : s = 3 := by rw [hs, if_pos (by omega)]
            rw [if_pos hy62]
            have hb385 := b158_385 (L := L) (t := tt) hr (d + 1 + 1 + 1) jm l y
            have hmN : jm 123 14 = (N : Int) := by rw [qjm.2 14 (by decide)]; exact ht.1
            rw [m15, hmN] at hb385
            have hb385 := hb385 (by intros; omega)
            rw [hb385]
            by_cases hN1 : p + 1 < N
            · have hT1 := ht.2.1.2 (p + 1) hN1
              have m126 : jm 126 ((p + 1 : Nat) : Int) = px_i2b (T ((p + 1 : Nat) : Int)) := by
                rw [qjm.1 126 (by decide) (by decide)]
                exact ht.2.2 _ (by omega) (by omega)
              rw [if_neg (by omega), m126]
              by_cases h61 : T ((p + 1 : Nat) : Int) = 61
              · rw [if_pos ((tz_ib_e hT1 (by omega)).mpr h61), if_neg hy60, b158_426 hr, m15, show px_w32 (((p + 1 : Nat) : Int) + 1) = ((p + 2 : Nat) : Int) by rw [ty_w (by omega)]; omega]
                rw [if_pos ⟨Or.inr h62, hN1, h61⟩] at hbe'
                refine ⟨_, rfl, tz_q_tr qjm (tz_q_tr (tz_q_f (Kc := []) (Fs := [18]) (by decide)) (tz_q_f (Kc := []) (Fs := [15]) (by decide)) (Kc'' := []) (Fs'' := [15, 18]) rfl rfl rfl rfl) rfl rfl rfl rfl, ?_, Or.inr ⟨hlt, ?_, ?_⟩⟩
                · rw [ty_up_j (by decide), ty_up_j (by decide), m16]
                · rw [ty_up_eq, hbe']
                · rw [ty_up_j (by decide), ty_up_j (by decide), m17, ty_up_j (by decide), ty_up_eq, hbe', decide_eq_true rfl, h62, hs3]
                  exact Or.inr (Or.inr (Or.inr (Or.inr ⟨rfl, by decide⟩)))
              · rw [if_neg (fun g => h61 ((tz_ib_e hT1 (by omega)).mp g))]
                refine ⟨jm, rfl, res1 (fun g => h61 g.2.2) (fun u => ?_)⟩
                rw [h62, hs3, hy62]
                exact Or.inr (Or.inr (Or.inr (Or.inr ⟨rfl, by decide⟩)))
            · rw [if_pos (by omega)]
              refine ⟨jm, rfl, res1 (fun g => hN1 g.2.1) (fun u => ?_)⟩
              rw [h62, hs3, hy62]
              exact Or.inr (Or.inr (Or.inr (Or.inr ⟨rfl, by decide⟩)))
          · have hy62 : ¬ y = 62 := by
              rw [hy]
              exact fun g => h62 ((tz_ib_e hT (by omega)).mp g)
            rw [if_neg hy62]
            have hn : ¬ (T p = 60 ∨ T p = 62) := fun g => by
              rcases g with g | g
              · exact h60 g
              · exact h62 g
            exact ⟨jm, rfl, res1 (fun g => hn g.1) (fun u => t0 u hn)⟩
end TYK3
