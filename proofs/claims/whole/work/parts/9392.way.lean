/-! way. -/
/-- where one can be on ways that end in a shore after n steps, so many steps ahead of the end -/
def tw_b (W C : Int) (com : Nat → Int → Bool) (sh : Int → Bool) (n : Nat) : Nat → Int → Bool
  | 0, c => com n c && sh c
  | s + 1, c => com (n - (s + 1)) c && ty_nb W C (tw_b W C com sh n s) c
/-- after j steps -/
def tw_B (W C : Int) (com : Nat → Int → Bool) (sh : Int → Bool) (n j : Nat) : Int → Bool := tw_b W C com sh n (n - j)
theorem tw_B_n {W C : Int} {com : Nat → Int → Bool} {sh : Int → Bool} {n : Nat} (c : Int) : tw_B W C com sh n n c = (com n c && sh c) := by
  unfold tw_B
  rw [Nat.sub_self]
  rfl
theorem tw_B_j {W C : Int} {com : Nat → Int → Bool} {sh : Int → Bool} {n j : Nat} (h : j < n) (c : Int) : tw_B W C com sh n j c = (com j c && ty_nb W C (tw_B W C com sh n (j + 1)) c) := by
  unfold tw_B
  obtain ⟨s, hs⟩ : ∃ s, n - j = s + 1 := ⟨n - j - 1, by omega⟩
  have e1 : n - (j + 1) = s := by omega
  have e2 : n - (s + 1) = j := by omega
  rw [hs, e1]
  show (com (n - (s + 1)) c && _) = _
  rw [e2]
/-- the next cell: the lowest beside -/
def tw_nx (W C : Int) (B : Int → Bool) (h c : Int) : Prop := ((0 ≤ c ∧ c < C) ∧ ty_adj W C h c ∧ B c = true) ∧ ∀ e, 0 ≤ e → e < C → ty_adj W C h e → B e = true → c ≤ e
theorem tw_nx_u {W C : Int} {B : Int → Bool} {h c c' : Int} (h1 : tw_nx W C B h c) (h2 : tw_nx W C B h c') : c = c' := by
  have g1 := h1.2 c' h2.1.1.1 h2.1.1.2 h2.1.2.1 h2.1.2.2
  have g2 := h2.2 c h1.1.1.1 h1.1.1.2 h1.1.2.1 h1.1.2.2
  omega
def tw_pt (W C : Int) (B : Nat → Int → Bool) (a : Int) : Nat → Int → Prop
  | 0, c => c = a
  | k + 1, c => ∃ h, tw_pt W C B a k h ∧ tw_nx W C (B (k + 1)) h c
theorem tw_pt_u {W C : Int} {B : Nat → Int → Bool} {a : Int} : ∀ (k : Nat) (c c' : Int), tw_pt W C B a k c → tw_pt W C B a k c' → c = c'
  | 0, c, c', h, h' => h.trans h'.symm
  | k + 1, c, c', ⟨h, h1, h2⟩, ⟨h', h3, h4⟩ => by
    rw [tw_pt_u k h h' h1 h3] at h2
    exact tw_nx_u h2 h4
/-- the lowest beside, out of a row's four -/
theorem tw_ex {W H : Int} {B B' : Int → Bool} {h : Int} (hW : 2 ≤ W ∧ W ≤ 6) (hh : 0 ≤ h ∧ h < W * H) (hn : ty_nb W (W * H) B h = true) : ∃ e, (0 ≤ e ∧ e < W * H) ∧ ty_adj W (W * H) h e ∧ B e = true := by
  obtain ⟨e, h1, h2⟩ := ty_nb_adj.mp hn
  exact ⟨e, (ty_adj_s hW hh h1).1, h1, h2⟩
/-- something is left at the start -/
theorem tw_B_0 {W H a m p : Int} {can : Int → Int → Bool} {sh : Int → Bool} (hW : 2 ≤ W ∧ W ≤ 6) {n : Nat} (hs : ty_ash W (W * H) a m p can sh n = true) (hCn : 0 ≤ W * H) : tw_B W (W * H) (ty_com W (W * H) a m p can) sh n 0 a = true := by
  have key : ∀ s : Nat, s ≤ n → ∃ c, (0 ≤ c ∧ c < W * H) ∧ tw_B W (W * H) (ty_com W (W * H) a m p can) sh n (n - s) c = true := by
    intro s
    induction s with
    | zero =>
      intro _
      obtain ⟨c, c0, c1, c2⟩ := ty_anyc_iff.mp hs
      refine ⟨c, ⟨c0, by omega⟩, ?_⟩
      rw [Nat.sub_zero, tw_B_n]
      exact c2
    | succ s ih =>
      intro hsn
      obtain ⟨c, hc, hB⟩ := ih (by omega)
      obtain ⟨j, hj⟩ : ∃ j, j = n - (s + 1) := ⟨_, rfl⟩
      have e1 : n - s = j + 1 := by omega
      rw [e1] at hB
      have hcom : ty_com W (W * H) a m p can (j + 1) c = true := by
        by_cases e : j + 1 = n
        · rw [e, tw_B_n, Bool.and_eq_true] at hB
          rw [e]
          exact hB.1
        · rw [tw_B_j (by omega), Bool.and_eq_true] at hB
          exact hB.1
      have hnb : ty_nb W (W * H) (ty_com W (W * H) a m p can j) c = true := by
        have h2 : (ty_nb W (W * H) (ty_com W (W * H) a m p can j) c && can c (m + ((j + 1 : Nat) : Int) * p)) = true := hcom
        rw [Bool.and_eq_true] at h2
        exact h2.1
      obtain ⟨e, h1, h2⟩ := ty_nb_adj.mp hnb
      obtain ⟨g1, g2⟩ := ty_adj_s hW hc h1
      refine ⟨e, g1, ?_⟩
      rw [← hj, tw_B_j (by omega), Bool.and_eq_true]
      exact ⟨h2, ty_nb_adj.mpr ⟨c, g2, hB⟩⟩
  obtain ⟨c, hc, hB⟩ := key n (Nat.le_refl n)
  rw [Nat.sub_self] at hB
  have hca : c = a := by
    by_cases e : n = 0
    · subst e
      rw [tw_B_n, Bool.and_eq_true] at hB
      exact of_decide_eq_true hB.1
    · rw [tw_B_j (by omega), Bool.and_eq_true] at hB
      exact of_decide_eq_true hB.1
  rw [hca] at hB
  exact hB
section TYWC
variable {L t : Nat} {r : MR}
/-- the class: what is left of each row -/
theorem tw_78_b (hr : px_hr r) (d : Nat) (i : MI) (com : Nat → Int → Bool) (sh : Int → Bool) (n : Nat) (hn : n ≤ 36) (x1 x2 : Int) : ∀ (k : Nat) (l : MI), ty_D i l → k ≤ n → (∀ j : Nat, k ≤ j → j ≤ n → ty_set (i 123 2) (l 112 (j : Int)) (tw_B (i 123 0) (i 123 2) com sh n j)) → (∀ j : Nat, j < k → ty_set (i 123 2) (l 112 (j : Int)) (com j)) →
    ∃ l1 : MI, px_X (d + 1) 78 (44, [vR 110, vI x1, vI x2, vI ((k : Int) - 1), vJ, vJ], []) (px_sh L, i, l, r, t) = px_X (d + 1) 78 (92, [vR 110, vI x1, vI x2, vL (l1 112 0), vJ, vI 1], []) (px_sh L, i, l1, r, t) ∧ ty_ch [112] l l1 ∧ ∀ j : Nat, j ≤ n → ty_set (i 123 2) (l1 112 (j : Int)) (tw_B (i 123 0) (i 123 2) com sh n j)
  | 0, l, hD, hk, hB, hc => by
    refine ⟨l, ?_, ty_ch_rf, fun j hj => hB j (Nat.zero_le _) hj⟩
    rw [b78_44 hr _ _ _ _ _ _ (by intros; omega) (by intros; omega), if_pos (by omega)]
  | k + 1, l, hD, hk, hB, hc => by
    have hdim := ty_D_2 hD
    have e1 : ((k + 1 : Nat) : Int) - 1 = (k : Int) := by omega
    obtain ⟨R, r1, s1⟩ := q42 (L := L) (t := t) hr d i l hD (hB (k + 1) (Nat.le_refl _) hk)
    have hset := ty_set_and hdim.2 (hc k (by omega)) s1
    obtain ⟨l1, hl1⟩ : ∃ l1 : MI, l1 = px_up l 112 (k : Int) (px_land (l 112 (k : Int)) R) := ⟨_, rfl⟩
    have c1 : ty_ch [112] l l1 := by
      rw [hl1]
      exact ty_ch_up (by decide)
    have l19 := c1 19 (by decide)
    obtain ⟨l2, r2, c2, h2⟩ := tw_78_b hr d i com sh n hn x1 x2 k l1 (ty_D_c (i := i) (l := l) rfl rfl rfl rfl rfl rfl (by rw [l19]) (by rw [l19]) (by rw [l19]) (ty_gs_fr (fun _ _ _ => rfl)) hD) (by omega) (fun j j0 j1 => by
      by_cases e : j = k
      · rw [e, hl1, ty_up_eq]
        exact ty_set_c hset (fun c _ _ => tw_B_j (by omega) c)
      · rw [hl1, ty_up_j (by omega)]
        exact hB j (by omega) j1) (fun j hj => by
      rw [hl1, ty_up_j (by omega)]
      exact hc j (by omega))
    refine ⟨l2, ?_, ty_ch_tr c1 c2 rfl rfl, h2⟩
    have hb := b78_44 (L := L) (t := t) hr d i l x1 x2 (k : Int)
    rw [show px_w32 ((k : Int) + 1) = ((k + 1 : Nat) : Int) by rw [ty_w (by omega)]; omega] at hb
    rw [e1, hb (by intros; omega) (by intros; omega), if_neg (by omega), r1, Option.bind_some, px_psh_some, b78_74 hr _ _ _ _ _ _ _ _ _ (by omega), ← hl1, show px_w32 ((k : Int) + (-1)) = (k : Int) - 1 by rw [ty_w (by omega)]; omega, r2]
/-- the class: the way -/
theorem tw_78_p (hr : px_hr r) (d : Nat) (i l : MI) (hD : ty_D i l) (B : Nat → Int → Bool) (a : Int) (n kk : Nat) (hn : n ≤ 36) (hkn : kk < n) (x1 : Int) (hB : ∀ j : Nat, j ≤ n → ty_set (i 123 2) (l 112 (j : Int)) (B j)) (hst : ∀ j : Nat, j < n → ∀ c, 0 ≤ c → c < i 123 2 → B j c = true → ty_nb (i 123 0) (i 123 2) (B (j + 1)) c = true) : ∀ (s j : Nat) (h : Int), j + s = kk + 1 → (0 ≤ h ∧ h < i 123 2) → B j h = true → tw_pt (i 123 0) (i 123 2) B a j h → ∀ S : Int, ty_set (i 123 2) S (fun e => decide (e = h)) → (s = 0 → S = px_lshl 1 h) →
    ∃ c : Int, px_X (d + 1 + 1) 78 (92, [vR 110, vI x1, vI (kk : Int), vL S, vJ, vI ((j + 1 : Nat) : Int)], []) (px_sh L, i, l, r, t) = some (some (vI c), (px_sh L, i, l, r, t)) ∧ tw_pt (i 123 0) (i 123 2) B a (kk + 1) c
  | 0, j, h, hj, hh, hBh, hpt, S, hS, hS0 => by
    have hdim := ty_D_2 hD
    have e : j = kk + 1 := by omega
    subst e
    refine ⟨h, ?_, hpt⟩
    rw [b78_92 hr, show px_w32 ((kk : Int) + 1) = ((kk + 1 : Nat) : Int) by rw [ty_w (by omega)]; omega, if_pos (by omega), hS0 rfl, tw_240 hr, tw_nl_c (by omega), Option.bind_some, px_psh_some, b78_130 hr]
  | s + 1, j, h, hj, hh, hBh, hpt, S, hS, hS0 => by
    have hdim := ty_D_2 hD
    have hW : 2 ≤ i 123 0 ∧ i 123 0 ≤ 6 := hD.1
    have hC : i 123 2 = i 123 0 * i 123 1 := hD.2.2.1
    obtain ⟨R, r1, s1⟩ := q42 (L := L) (t := t) hr (d + 1) i l hD hS
    have hset := ty_set_and hdim.2 s1 (hB (j + 1) (by omega))
    have hone : ∀ c, 0 ≤ c → c < i 123 2 → (ty_nb (i 123 0) (i 123 2) (fun e => decide (e = h)) c = true ↔ ty_adj (i 123 0) (i 123 2) h c) := fun c c0 c1 => by
      rw [ty_nb_adj]
      constructor
      · rintro ⟨e, g1, g2⟩
        rw [of_decide_eq_true g2, hC] at g1
        rw [hC]
        exact (ty_adj_s hW ⟨c0, by rw [← hC]; exact c1⟩ g1).2
      · intro g
        rw [hC] at g
        have g2 := (ty_adj_s hW ⟨hh.1, by rw [← hC]; exact hh.2⟩ g).2
        rw [← hC] at g2
        exact ⟨h, g2, decide_eq_true rfl⟩
    have hnb := hst j (by omega) h hh.1 hh.2 hBh
    have hex : ∃ c, 0 ≤ c ∧ c < i 123 2 ∧ (ty_nb (i 123 0) (i 123 2) (fun e => decide (e = h)) c && B (j + 1) c) = true := by
      rw [hC] at hnb
      obtain ⟨e, g1, g2, g3⟩ := tw_ex (B' := fun _ => true) hW ⟨hh.1, by rw [← hC]; exact hh.2⟩ hnb
      rw [← hC] at g1 g2
      exact ⟨e, g1.1, g1.2, by rw [(hone e g1.1 g1.2).mpr g2, g3]; rfl⟩
    obtain ⟨c, ⟨hc, hfc, hlow⟩, hl⟩ := tw_low hdim.2 hset hex
    rw [Bool.and_eq_true] at hfc
    have hnx : tw_nx (i 123 0) (i 123 2) (B (j + 1)) h c := ⟨⟨hc, (hone c hc.1 hc.2).mp hfc.1, hfc.2⟩, fun e e0 e1 e2 e3 => by
      by_cases hlt : e < c
      · have := hlow e e0 hlt
        rw [(hone e e0 e1).mpr e2, e3] at this
        exact absurd this (by decide)
      · omega⟩
    obtain ⟨c', r2, h2⟩ := tw_78_p hr d i l hD B a n kk hn hkn x1 hB hst s (j + 1) c (by omega) hc hfc.2 ⟨h, hpt, hnx⟩ (px_lshl 1 c) (ty_set_1 hdim.2 hc) (fun _ => rfl)
    refine ⟨c', ?_, h2⟩
    rw [b78_92 hr, show px_w32 ((kk : Int) + 1) = ((kk + 1 : Nat) : Int) by rw [ty_w (by omega)]; omega, if_neg (by omega), r1, Option.bind_some, px_psh_some, b78_108 hr _ _ _ _ _ _ _ _ (by omega), tw_239 hr, hl, Option.bind_some, px_psh_some, b78_119 hr, show px_w32 (((j + 1 : Nat) : Int) + 1) = ((j + 1 + 1 : Nat) : Int) by rw [ty_w (by omega)]; omega]
    exact r2
/-- stepOf -/
theorem tw_78 (hr : px_hr r) (d : Nat) (i l : MI) (hD : ty_D i l) (com : Nat → Int → Bool) (sh : Int → Bool) (a : Int) (n kk : Nat) (hn : n ≤ 36) (hkn : kk < n) (hsh : ty_set (i 123 2) (l 19 7) sh) (ha : 0 ≤ a ∧ a < i 123 2) (hcom : ∀ j : Nat, j ≤ n → ty_set (i 123 2) (l 112 (j : Int)) (com j)) (h0 : tw_B (i 123 0) (i 123 2) com sh n 0 a = true) (hone : ∀ c, com 0 c = true → c = a) :
    ∃ (l1 : MI) (c : Int), px_C (d + 1 + 1) 78 [vR 110, vI (n : Int), vI (kk : Int)] (px_sh L, i, l, r, t) = some (some (vI c), (px_sh L, i, l1, r, t)) ∧ ty_ch [112] l l1 ∧ tw_pt (i 123 0) (i 123 2) (tw_B (i 123 0) (i 123 2) com sh n) a (kk + 1) c := by
  have hdim := ty_D_2 hD
  have hsn := ty_set_and hdim.2 (hcom n (Nat.le_refl _)) hsh
  obtain ⟨la, hla⟩ : ∃ la : MI, la = px_up l 112 (n : Int) (px_land (l 112 (n : Int)) (l 19 7)) := ⟨_, rfl⟩
  have ca : ty_ch [112] l la := by
    rw [hla]
    exact ty_ch_up (by decide)
  have l19 := ca 19 (by decide)
  have hDa : ty_D i la := ty_D_c (i := i) (l := l) rfl rfl rfl rfl rfl rfl (by rw [l19]) (by rw [l19]) (by rw [l19]) (ty_gs_fr (fun _ _ _ => rfl)) hD
  obtain ⟨lb, rb, cb, hb⟩ := tw_78_b (L := L) (r := r) (t := t) hr (d + 1) i com sh n hn (n : Int) (kk : Int) n la hDa (Nat.le_refl _) (fun j j0 j1 => by
    have e : j = n := by omega
    rw [e, hla, ty_up_eq]
    exact ty_set_c hsn (fun c _ _ => tw_B_n c)) (fun j hj => by
    rw [hla, ty_up_j (by omega)]
    exact hcom j (by omega))
  have l19b := cb 19 (by decide)
  have hDb : ty_D i lb := ty_D_c (i := i) (l := la) rfl rfl rfl rfl rfl rfl (by rw [l19b]) (by rw [l19b]) (by rw [l19b]) (ty_gs_fr (fun _ _ _ => rfl)) hDa
  have hB0 : ty_set (i 123 2) (lb 112 0) (fun e => decide (e = a)) := ty_set_c (hb 0 (Nat.zero_le _)) (fun c c0 c1 => by
    by_cases e : c = a
    · rw [e, decide_eq_true rfl, h0]
    · rw [decide_eq_false e]
      cases hx : tw_B (i 123 0) (i 123 2) com sh n 0 c with
      | false => rfl
      | true =>
        rw [tw_B_j (by omega), Bool.and_eq_true] at hx
        exact absurd (hone c hx.1) e)
  obtain ⟨c, rc, hc⟩ := tw_78_p (L := L) (r := r) (t := t) hr d i lb hDb (tw_B (i 123 0) (i 123 2) com sh n) a n kk hn hkn (n : Int) hb (fun j hj c _ _ hx => by
    rw [tw_B_j hj, Bool.and_eq_true] at hx
    exact hx.2) (kk + 1) 0 a (by omega) ha h0 rfl (lb 112 0) hB0 (fun g => by omega)
  refine ⟨lb, c, ?_, ty_ch_tr ca cb rfl rfl, hc⟩
  rw [e78, b78_0 hr _ _ _ _ _ (by intros; omega), if_neg (by omega), if_neg (by omega), if_pos (by omega), ← hla, show px_w32 ((n : Int) - 1) = (n : Int) - 1 from ty_w (by omega)]
  exact rb.trans rc
/-! The reference's rows. -/
theorem tw_212_n (hr : px_hr r) (d : Nat) (l : MI) (com sh : Int → Bool) (n : Nat) (hn : 1 ≤ n ∧ n ≤ 36) : ∀ (s : Nat) (i : MI) (c : Int), i 123 2 ≤ 36 → (∀ e, 0 ≤ e → e < i 123 2 → decide (i 124 (21 + 2 * e) = 1) = sh e) → 0 ≤ c → c + s = i 123 2 → (∀ e, c ≤ e → e < i 123 2 → i 147 (36 * (n : Int) + e) = ty_b (com e)) →
    ∃ i1 : MI, px_X (d + 1) 212 (2, [vR 123, vI (n : Int), vI c, vJ, vJ, vJ, vJ], []) (px_sh L, i, l, r, t) = px_X (d + 1) 212 (58, [vR 123, vI (n : Int), vI ((n : Int) - 1), vJ, vJ, vJ, vJ], []) (px_sh L, i1, l, r, t) ∧ ty_ch [147] i i1 ∧ (∀ e, c ≤ e → e < i 123 2 → i1 147 (36 * (n : Int) + e) = ty_b (com e && sh e)) ∧ ∀ x, ¬ (36 * (n : Int) + c ≤ x ∧ x < 36 * (n : Int) + i 123 2) → i1 147 x = i 147 x
  | 0, i, c, h36, hsh, hc, hs, hcom => by
    have hb := b212_2 (L := L) (t := t) hr d i l (n : Int) c
    refine ⟨i, ?_, ty_ch_rf, fun e e0 e1 => by omega, fun _ _ => rfl⟩
    rw [hb (by intros; omega) (by intros; omega), if_pos (by omega), show px_w32 ((n : Int) - 1) = (n : Int) - 1 from ty_w (by omega)]
  | s + 1, i, c, h36, hsh, hc, hs, hcom => by
    have hb := b212_2 (L := L) (t := t) hr d i l (n : Int) c
    rw [show px_w32 (36 * (n : Int)) = 36 * (n : Int) from ty_w (by omega), show px_w32 (36 * (n : Int) + c) = 36 * (n : Int) + c from ty_w (by omega), show px_w32 (c + 1) = c + 1 from ty_w (by omega), hcom c (Int.le_refl _) (by omega)] at hb
    have go : ∀ v : Int, v = ty_b (com c && sh c) → ∃ i1 : MI, px_X (d + 1) 212 (2, [vR 123, vI (n : Int), vI (c + 1), vJ, vJ, vJ, vJ], []) (px_sh L, px_up i 147 (36 * (n : Int) + c) v, l, r, t) = px_X (d + 1) 212 (58, [vR 123, vI (n : Int), vI ((n : Int) - 1), vJ, vJ, vJ, vJ], []) (px_sh L, i1, l, r, t) ∧ ty_ch [147] i i1 ∧ (∀ e, c ≤ e → e < i 123 2 → i1 147 (36 * (n : Int) + e) = ty_b (com e && sh e)) ∧ ∀ x, ¬ (36 * (n : Int) + c ≤ x ∧ x < 36 * (n : Int) + i 123 2) → i1 147 x = i 147 x := fun v hv => by
      have cu : ty_ch [147] i (px_up i 147 (36 * (n : Int) + c) v) := ty_ch_up (by decide)
      have u123 := cu 123 (by decide)
      have u124 := cu 124 (by decide)
      obtain ⟨i1, r1, c1, h1, h2⟩ := tw_212_n hr d l com sh n hn s (px_up i 147 (36 * (n : Int) + c) v) (c + 1) (by rw [u123]; exact h36) (by rw [u123, u124]; exact hsh) (by omega) (by rw [u123]; omega) (fun e e0 e1 => by
        rw [u123] at e1
        rw [ty_up_j (by omega)]
        exact hcom e (by omega) e1)
      rw [u123] at h1 h2
      refine ⟨i1, r1, ty_ch_tr cu c1 rfl rfl, fun e e0 e1 => ?_, fun x hx => ?_⟩
      · by_cases he : e = c
        · rw [he, h2 _ (by omega), ty_up_eq, hv]
        · exact h1 e (by omega) e1
      · rw [h2 x (by omega), ty_up_j (by omega)]
    rw [hb (by intros; omega) (by intros; omega), if_neg (by omega)]
    cases hcc : com c with
    | false =>
      rw [if_pos (show ty_b false = 0 from rfl)]
      exact go 0 (by rw [hcc]; rfl)
    | true =>
      rw [if_neg (show ¬ ty_b true = 0 by decide), q209 hr _ _ _ _ (by omega), hsh c hc (by omega), Option.bind_some, px_psh_some, b212_39 hr _ _ _ _ _ _ _ (by intros; omega) (by intros; omega), show px_w32 (c + 1) = c + 1 from ty_w (by omega)]
      cases hss : sh c with
      | false =>
        rw [if_pos (show ty_b false = 0 from rfl)]
        exact go 0 (by rw [hcc, hss]; rfl)
      | true =>
        rw [if_neg (show ¬ ty_b true = 0 by decide)]
        exact go 1 (by rw [hcc, hss]; rfl)
/-- one side -/
theorem tw_212_s (hr : px_hr r) (d : Nat) (i l : MI) (hW : 2 ≤ i 123 0 ∧ i 123 0 ≤ 6) (hH : 2 ≤ i 123 1 ∧ i 123 1 ≤ 6) (hC : i 123 2 = i 123 0 * i 123 1) (hC36 : i 123 2 ≤ 36) (x1 k c s : Int) (hk : 0 ≤ k ∧ k < 36) (hc : 0 ≤ c ∧ c < i 123 2) (hs : s = 0 ∨ s = 1 ∨ s = 2 ∨ s = 3) (u : Bool) (f : Int → Bool) (hf : ∀ e : Int, 0 ≤ e → e < i 123 2 → i 147 (36 * (k + 1) + e) = ty_b (f e)) {v6 : PV} (hn6 : px_nl v6) :
    ∃ v6' : PV, px_nl v6' ∧ px_X (d + 1 + 1) 212 (78, [vR 123, vI x1, vI k, vI c, vI (ty_b u), vI s, v6], []) (px_sh L, i, l, r, t) =
      px_X (d + 1 + 1) 212 (78, [vR 123, vI x1, vI k, vI c, vI (ty_b (u || (decide (¬ ty_bes (i 123 0) (i 123 2) c s = -1) && f (ty_bes (i 123 0) (i 123 2) c s)))), vI (s + 1), v6'], []) (px_sh L, i, l, r, t) := by
  have hb := ty_bes_b (c := c) (s := s) hW (by rw [← hC]; exact hc)
  rw [← hC] at hb
  obtain ⟨e, he⟩ : ∃ e : Int, e = ty_bes (i 123 0) (i 123 2) c s := ⟨_, rfl⟩
  rw [← he] at hb ⊢
  refine ⟨vI e, px_nl_I _, ?_⟩
  have hb91 := b212_91 (L := L) (t := t) hr (d + 1 + 1) i l x1 k c (ty_b u) s hn6 e
  rw [show px_w32 (k + 1) = k + 1 from ty_w (by omega), show px_w32 (36 * (k + 1)) = 36 * (k + 1) from ty_w (by omega), show px_w32 (36 * (k + 1) + e) = 36 * (k + 1) + e from ty_w (by omega), show px_w32 (s + 1) = s + 1 from ty_w (by omega)] at hb91
  rw [b212_78 hr _ _ _ _ _ _ _ _ hn6 (by intros; omega) (by intros; omega) (by intros; omega) (by intros; omega), if_neg (by omega), q210 hr _ _ _ _ _ hW hH hC hc hs, ← he, Option.bind_some, px_psh_some, hb91 (by intros; omega)]
  cases u with
  | true =>
    rw [if_neg (show ¬ ty_b true = 0 by decide), Bool.true_or]
    rfl
  | false =>
    rw [if_pos (show ty_b false = 0 from rfl), Bool.false_or]
    by_cases h : e = -1
    · rw [if_pos h, decide_eq_false (fun q => q h)]
      rfl
    · rw [if_neg h, decide_eq_true h, Bool.true_and, hf e (by omega) (by omega)]
      cases f e with
      | false => rw [if_pos (show ty_b false = 0 from rfl)]; rfl
      | true => rw [if_neg (show ¬ ty_b true = 0 by decide)]; rfl
theorem tw_212_4 (hr : px_hr r) (d : Nat) (i l : MI) (hW : 2 ≤ i 123 0 ∧ i 123 0 ≤ 6) (hH : 2 ≤ i 123 1 ∧ i 123 1 ≤ 6) (hC : i 123 2 = i 123 0 * i 123 1) (hC36 : i 123 2 ≤ 36) (x1 k c : Int) (hk : 0 ≤ k ∧ k < 36) (hc : 0 ≤ c ∧ c < i 123 2) (f : Int → Bool) (hf : ∀ e : Int, 0 ≤ e → e < i 123 2 → i 147 (36 * (k + 1) + e) = ty_b (f e)) {v6 : PV} (hn6 : px_nl v6) :
    ∃ v6' : PV, px_nl v6' ∧ px_X (d + 1 + 1) 212 (78, [vR 123, vI x1, vI k, vI c, vI 0, vI 0, v6], []) (px_sh L, i, l, r, t) = px_X (d + 1 + 1) 212 (78, [vR 123, vI x1, vI k, vI c, vI (ty_b (ty_nb (i 123 0) (i 123 2) f c)), vI 4, v6'], []) (px_sh L, i, l, r, t) := by
  obtain ⟨a0, n0, e0⟩ := tw_212_s (L := L) (t := t) hr d i l hW hH hC hC36 x1 k c 0 hk hc (by omega) false f hf hn6
  obtain ⟨a1, n1, e1⟩ := tw_212_s (L := L) (t := t) hr d i l hW hH hC hC36 x1 k c 1 hk hc (by omega) (false || (decide (¬ ty_bes (i 123 0) (i 123 2) c 0 = -1) && f (ty_bes (i 123 0) (i 123 2) c 0))) f hf n0
  obtain ⟨a2, n2, e2⟩ := tw_212_s (L := L) (t := t) hr d i l hW hH hC hC36 x1 k c 2 hk hc (by omega) ((false || (decide (¬ ty_bes (i 123 0) (i 123 2) c 0 = -1) && f (ty_bes (i 123 0) (i 123 2) c 0))) || (decide (¬ ty_bes (i 123 0) (i 123 2) c 1 = -1) && f (ty_bes (i 123 0) (i 123 2) c 1))) f hf n1
  obtain ⟨a3, n3, e3⟩ := tw_212_s (L := L) (t := t) hr d i l hW hH hC hC36 x1 k c 3 hk hc (by omega) (((false || (decide (¬ ty_bes (i 123 0) (i 123 2) c 0 = -1) && f (ty_bes (i 123 0) (i 123 2) c 0))) || (decide (¬ ty_bes (i 123 0) (i 123 2) c 1 = -1) && f (ty_bes (i 123 0) (i 123 2) c 1))) || (decide (¬ ty_bes (i 123 0) (i 123 2) c 2 = -1) && f (ty_bes (i 123 0) (i 123 2) c 2))) f hf n2
  refine ⟨a3, n3, ?_⟩
  rw [ty_nb_bes hW hc.1]
  exact (show _ = _ from e0).trans (e1.trans (e2.trans e3))
theorem tw_212_c (hr : px_hr r) (d : Nat) (l : MI) (x1 : Int) (k : Nat) (hk : k < 36) (com f : Int → Bool) : ∀ (n : Nat) (i : MI) (c : Int) (v4 v5 v6 : PV), (2 ≤ i 123 0 ∧ i 123 0 ≤ 6) → (2 ≤ i 123 1 ∧ i 123 1 ≤ 6) → i 123 2 = i 123 0 * i 123 1 → i 123 2 ≤ 36 → (∀ e : Int, 0 ≤ e → e < i 123 2 → i 147 (36 * ((k : Int) + 1) + e) = ty_b (f e)) → (∀ e : Int, c ≤ e → e < i 123 2 → i 147 (36 * (k : Int) + e) = ty_b (com e)) → px_nl v4 → px_nl v5 → px_nl v6 → 0 ≤ c → c + n = i 123 2 →
    ∃ (i1 : MI) (v3' v4' v5' v6' : PV), px_X (d + 1 + 1) 212 (64, [vR 123, vI x1, vI (k : Int), vI c, v4, v5, v6], []) (px_sh L, i, l, r, t) = px_X (d + 1 + 1) 212 (58, [vR 123, vI x1, vI ((k : Int) - 1), v3', v4', v5', v6'], []) (px_sh L, i1, l, r, t) ∧ px_nl v3' ∧ px_nl v4' ∧ px_nl v5' ∧ px_nl v6' ∧ ty_ch [147] i i1 ∧ (∀ e, c ≤ e → e < i 123 2 → i1 147 (36 * (k : Int) + e) = ty_b (com e && ty_nb (i 123 0) (i 123 2) f e)) ∧ ∀ x, ¬ (36 * (k : Int) + c ≤ x ∧ x < 36 * (k : Int) + i 123 2) → i1 147 x = i 147 x
  | 0, i, c, v4, v5, v6, hW, hH, hC, hC36, hf, hcom, n4, n5, n6, h0, hn => by
    refine ⟨i, vI c, v4, v5, v6, ?_, px_nl_I _, n4, n5, n6, ty_ch_rf, fun e _ _ => by omega, fun _ _ => rfl⟩
    rw [b212_64 hr _ _ _ _ _ _ n4 n5 n6, if_pos (by omega), show px_w32 ((k : Int) + (-1)) = (k : Int) - 1 by rw [ty_w (by omega)]; omega]
  | n + 1, i, c, v4, v5, v6, hW, hH, hC, hC36, hf, hcom, n4, n5, n6, h0, hn => by
    have hc : 0 ≤ c ∧ c < i 123 2 := by omega
    obtain ⟨a6, m6, e4⟩ := tw_212_4 (L := L) (t := t) hr d i l hW hH hC hC36 x1 (k : Int) c (by omega) hc f hf n6
    obtain ⟨u, hu⟩ : ∃ u : Bool, u = ty_nb (i 123 0) (i 123 2) f c := ⟨_, rfl⟩
    rw [← hu] at e4
    have hb := b212_78 (L := L) (t := t) hr (d + 1) i l x1 (k : Int) c (ty_b u) 4 m6
    rw [show px_w32 (36 * (k : Int)) = 36 * (k : Int) from ty_w (by omega), show px_w32 (36 * (k : Int) + c) = 36 * (k : Int) + c from ty_w (by omega), show px_w32 (c + 1) = c + 1 from ty_w (by omega), hcom c (Int.le_refl _) hc.2] at hb
    have hb := hb (by intros; omega) (by intros; omega) (by intros; omega) (by intros; omega)
    rw [if_pos (by omega)] at hb
    have hgo : px_X (d + 1 + 1) 212 (64, [vR 123, vI x1, vI (k : Int), vI c, v4, v5, v6], []) (px_sh L, i, l, r, t) = px_X (d + 1 + 1) 212 (64, [vR 123, vI x1, vI (k : Int), vI (c + 1), vI (ty_b u), vI 4, a6], []) (px_sh L, px_up i 147 (36 * (k : Int) + c) (ty_b (com c && u)), l, r, t) := by
      rw [b212_64 hr _ _ _ _ _ _ n4 n5 n6, if_neg (by omega), e4, hb]
      cases com c with
      | false => rw [if_pos (show ty_b false = 0 from rfl)]; rfl
      | true =>
        rw [if_neg (show ¬ ty_b true = 0 by decide)]
        cases u with
        | false => rw [if_pos (show ty_b false = 0 from rfl)]; rfl
        | true => rw [if_neg (show ¬ ty_b true = 0 by decide)]; rfl
    have cu : ty_ch [147] i (px_up i 147 (36 * (k : Int) + c) (ty_b (com c && u))) := ty_ch_up (by decide)
    have u123 := cu 123 (by decide)
    obtain ⟨i1, w3, w4, w5, w6, r1, k3, k4, k5, k6, c1, g1, g2⟩ := tw_212_c hr d l x1 k hk com f n (px_up i 147 (36 * (k : Int) + c) (ty_b (com c && u))) (c + 1) _ _ a6 (by rw [u123]; exact hW) (by rw [u123]; exact hH) (by rw [u123]; exact hC) (by rw [u123]; exact hC36) (fun e e0 e1 => by
      rw [u123] at e1
      rw [ty_up_j (by omega)]
      exact hf e e0 e1) (fun e e0 e1 => by
      rw [u123] at e1
      rw [ty_up_j (by omega)]
      exact hcom e (by omega) e1) (px_nl_I _) (px_nl_I _) m6 (by omega) (by rw [u123]; omega)
    rw [u123] at g1 g2
    refine ⟨i1, w3, w4, w5, w6, by rw [hgo, r1], k3, k4, k5, k6, ty_ch_tr cu c1 rfl rfl, fun e e0 e1 => ?_, fun x hx => ?_⟩
    · by_cases he : e = c
      · rw [he, g2 _ (by omega), ty_up_eq, hu]
      · exact g1 e (by omega) e1
    · rw [g2 x (by omega), ty_up_j (by omega)]
theorem tw_212_k (hr : px_hr r) (d : Nat) (l : MI) (com : Nat → Int → Bool) (sh : Int → Bool) (n : Nat) (hn : n ≤ 36) (x1 W C : Int) : ∀ (k : Nat) (i : MI) (v3 v4 v5 v6 : PV), px_nl v3 → px_nl v4 → px_nl v5 → px_nl v6 → i 123 0 = W → i 123 2 = C → (2 ≤ i 123 0 ∧ i 123 0 ≤ 6) → (2 ≤ i 123 1 ∧ i 123 1 ≤ 6) → i 123 2 = i 123 0 * i 123 1 → i 123 2 ≤ 36 → k ≤ n → (∀ j : Nat, k ≤ j → j ≤ n → ∀ e, 0 ≤ e → e < C → i 147 (36 * (j : Int) + e) = ty_b (tw_B W C com sh n j e)) → (∀ j : Nat, j < k → ∀ e, 0 ≤ e → e < C → i 147 (36 * (j : Int) + e) = ty_b (com j e)) →
    ∃ (i1 : MI) (v4' v5' v6' : PV), px_X (d + 1 + 1) 212 (58, [vR 123, vI x1, vI ((k : Int) - 1), v3, v4, v5, v6], []) (px_sh L, i, l, r, t) = px_X (d + 1 + 1) 212 (190, [vR 123, vI x1, vI (i 124 0), vI 1, v4', v5', v6'], []) (px_sh L, i1, l, r, t) ∧ px_nl v4' ∧ px_nl v5' ∧ px_nl v6' ∧ ty_ch [147] i i1 ∧ ∀ j : Nat, j ≤ n → ∀ e, 0 ≤ e → e < C → i1 147 (36 * (j : Int) + e) = ty_b (tw_B W C com sh n j e)
  | 0, i, v3, v4, v5, v6, n3, n4, n5, n6, eW, eC, hW, hH, hC, hC36, hk, hB, hc => by
    refine ⟨i, v4, v5, v6, ?_, n4, n5, n6, ty_ch_rf, fun j hj => hB j (Nat.zero_le _) hj⟩
    rw [b212_58 hr _ _ _ _ _ n3 n4 n5 n6, if_pos (by omega)]
  | k + 1, i, v3, v4, v5, v6, n3, n4, n5, n6, eW, eC, hW, hH, hC, hC36, hk, hB, hc => by
    have hC4 : 0 ≤ i 123 2 := by
      rw [hC]
      exact Int.mul_nonneg (by omega) (by omega)
    obtain ⟨i1, w3, w4, w5, w6, r1, k3, k4, k5, k6, c1, g1, g2⟩ := tw_212_c (L := L) (r := r) (t := t) hr d l x1 k (by omega) (com k) (tw_B W C com sh n (k + 1)) (i 123 2).toNat i 0 v4 v5 v6 hW hH hC hC36 (fun e e0 e1 => by
      have := hB (k + 1) (Nat.le_refl _) hk e e0 (by omega)
      rw [show ((k + 1 : Nat) : Int) = (k : Int) + 1 by omega] at this
      exact this) (fun e e0 e1 => hc k (by omega) e e0 (by omega)) n4 n5 n6 (by omega) (by omega)
    have u123 := c1 123 (by decide)
    have u124 := c1 124 (by decide)
    rw [eW, eC] at g1
    rw [eC] at g2
    obtain ⟨i2, z4, z5, z6, r2, p4, p5, p6, c2, h2⟩ := tw_212_k hr d l com sh n hn x1 W C k i1 w3 w4 w5 w6 k3 k4 k5 k6 (by rw [u123]; exact eW) (by rw [u123]; exact eC) (by rw [u123]; exact hW) (by rw [u123]; exact hH) (by rw [u123]; exact hC) (by rw [u123]; exact hC36) (by omega) (fun j j0 j1 e e0 e1 => by
      by_cases ej : j = k
      · rw [ej, g1 e e0 e1, tw_B_j (by omega)]
      · rw [g2 _ (by omega)]
        exact hB j (by omega) j1 e e0 e1) (fun j hj e e0 e1 => by
      rw [g2 _ (by omega)]
      exact hc j (by omega) e e0 e1)
    rw [u124] at r2
    refine ⟨i2, z4, z5, z6, ?_, p4, p5, p6, ty_ch_tr c1 c2 rfl rfl, h2⟩
    rw [show ((k + 1 : Nat) : Int) - 1 = (k : Int) by omega, b212_58 hr _ _ _ _ _ n3 n4 n5 n6, if_neg (by omega), r1, r2]
/-- the lowest so far -/
def tw_mn (f : Int → Bool) (x e : Int) : Int := if e = -1 then x else if f e = true then (if x = -1 then e else if x ≤ e then x else e) else x
theorem tw_212_q (hr : px_hr r) (d : Nat) (i l : MI) (hW : 2 ≤ i 123 0 ∧ i 123 0 ≤ 6) (hH : 2 ≤ i 123 1 ∧ i 123 1 ≤ 6) (hC : i 123 2 = i 123 0 * i 123 1) (hC36 : i 123 2 ≤ 36) (x1 h k x s : Int) (hk : 1 ≤ k ∧ k ≤ 36) (hh : 0 ≤ h ∧ h < i 123 2) (hs : s = 0 ∨ s = 1 ∨ s = 2 ∨ s = 3) (f : Int → Bool) (hf : ∀ e : Int, 0 ≤ e → e < i 123 2 → i 147 (36 * k + e) = ty_b (f e)) {v6 : PV} (hn6 : px_nl v6) :
    ∃ v6' : PV, px_nl v6' ∧ px_X (d + 1 + 1) 212 (201, [vR 123, vI x1, vI h, vI k, vI x, vI s, v6], []) (px_sh L, i, l, r, t) = px_X (d + 1 + 1) 212 (201, [vR 123, vI x1, vI h, vI k, vI (tw_mn f x (ty_bes (i 123 0) (i 123 2) h s)), vI (s + 1), v6'], []) (px_sh L, i, l, r, t) := by
  have hb := ty_bes_b (c := h) (s := s) hW (by rw [← hC]; exact hh)
  rw [← hC] at hb
  obtain ⟨e, he⟩ : ∃ e : Int, e = ty_bes (i 123 0) (i 123 2) h s := ⟨_, rfl⟩
  rw [← he] at hb ⊢
  refine ⟨vI e, px_nl_I _, ?_⟩
  have hb14 := b212_214 (L := L) (t := t) hr (d + 1 + 1) i l x1 h k x s hn6 e
  rw [show px_w32 (36 * k) = 36 * k from ty_w (by omega), show px_w32 (36 * k + e) = 36 * k + e from ty_w (by omega), show px_w32 (s + 1) = s + 1 from ty_w (by omega)] at hb14
  rw [b212_201 hr _ _ _ _ _ _ _ _ hn6 (by intros; omega), if_neg (by omega), q210 hr _ _ _ _ _ hW hH hC hh hs, ← he, Option.bind_some, px_psh_some, hb14 (by intros; omega)]
  unfold tw_mn
  by_cases h1 : e = -1
  · rw [if_pos h1, if_pos h1]
  · rw [if_neg h1, if_neg h1, hf e (by omega) (by omega)]
    cases hfe : f e with
    | false => rw [if_pos (show ty_b false = 0 from rfl), if_neg (by decide)]
    | true =>
      rw [if_neg (show ¬ ty_b true = 0 by decide), if_pos rfl]
      by_cases h2 : x = -1
      · rw [if_pos h2, if_pos h2]
      · rw [if_neg h2, if_neg h2]
        by_cases h3 : x ≤ e
        · rw [if_pos h3, if_pos h3]
        · rw [if_neg h3, if_neg h3]
theorem tw_mn_nx {W H : Int} (f : Int → Bool) {h : Int} (hW : 2 ≤ W ∧ W ≤ 6) (hh : 0 ≤ h ∧ h < W * H) (hn : ty_nb W (W * H) f h = true) : tw_nx W (W * H) f h (tw_mn f (tw_mn f (tw_mn f (tw_mn f (-1) (ty_bes W (W * H) h 0)) (ty_bes W (W * H) h 1)) (ty_bes W (W * H) h 2)) (ty_bes W (W * H) h 3)) := by
  have step : ∀ (P : Int → Prop) (x e : Int), (e = -1 ∨ (0 ≤ e ∧ e < W * H)) → ((x = -1 ∧ ∀ y, P y → ¬ f y = true) ∨ (P x ∧ 0 ≤ x ∧ f x = true ∧ ∀ y, P y → f y = true → x ≤ y)) → ((tw_mn f x e = -1 ∧ ∀ y, (P y ∨ (y = e ∧ 0 ≤ e)) → ¬ f y = true) ∨ ((P (tw_mn f x e) ∨ (tw_mn f x e = e ∧ 0 ≤ e)) ∧ 0 ≤ tw_mn f x e ∧ f (tw_mn f x e) = true ∧ ∀ y, (P y ∨ (y = e ∧ 0 ≤ e)) → f y = true → tw_mn f x e ≤ y)) := by
    intro P x e he hx
    unfold tw_mn
    by_cases h1 : e = -1
    · rw [if_pos h1]
      rcases hx with ⟨g1, g2⟩ | ⟨g1, g2, g3, g4⟩
      · exact Or.inl ⟨g1, fun y hy => by
          rcases hy with hy | hy
          · exact g2 y hy
          · omega⟩
      · exact Or.inr ⟨Or.inl g1, g2, g3, fun y hy hf => by
          rcases hy with hy | hy
          · exact g4 y hy hf
          · omega⟩
    · rw [if_neg h1]
      by_cases hfe : f e = true
      · rw [if_pos hfe]
        rcases hx with ⟨g1, g2⟩ | ⟨g1, g2, g3, g4⟩
        · rw [if_pos g1]
          exact Or.inr ⟨Or.inr ⟨rfl, by omega⟩, by omega, hfe, fun y hy hf => by
            rcases hy with hy | hy
            · exact absurd hf (g2 y hy)
            · omega⟩
        · rw [if_neg (by omega)]
          by_cases h3 : x ≤ e
          · rw [if_pos h3]
            exact Or.inr ⟨Or.inl g1, g2, g3, fun y hy hf => by
              rcases hy with hy | hy
              · exact g4 y hy hf
              · omega⟩
          · rw [if_neg h3]
            exact Or.inr ⟨Or.inr ⟨rfl, by omega⟩, by omega, hfe, fun y hy hf => by
              rcases hy with hy | hy
              · have := g4 y hy hf
                omega
              · omega⟩
      · rw [if_neg hfe]
        rcases hx with ⟨g1, g2⟩ | ⟨g1, g2, g3, g4⟩
        · exact Or.inl ⟨g1, fun y hy => by
            rcases hy with hy | hy
            · exact g2 y hy
            · rw [hy.1]
              exact hfe⟩
        · exact Or.inr ⟨Or.inl g1, g2, g3, fun y hy hf => by
            rcases hy with hy | hy
            · exact g4 y hy hf
            · rw [hy.1] at hf
              exact absurd hf hfe⟩
  have b0 := ty_bes_b (c := h) (s := 0) hW hh
  have b1 := ty_bes_b (c := h) (s := 1) hW hh
  have b2 := ty_bes_b (c := h) (s := 2) hW hh
  have b3 := ty_bes_b (c := h) (s := 3) hW hh
  have s0 := step (fun _ => False) (-1) _ b0 (Or.inl ⟨rfl, fun y hy => hy.elim⟩)
  have s1 := step _ _ _ b1 s0
  have s2 := step _ _ _ b2 s1
  have s3 := step _ _ _ b3 s2
  obtain ⟨e, g1, g2, g3⟩ := tw_ex (B' := f) hW hh hn
  have ge := (ty_bes_adj (C := W * H) hW hh.1 g1.1).mp g2
  rcases s3 with ⟨-, k2⟩ | ⟨k1, k2, k3, k4⟩
  · exact absurd g3 (k2 e (by
      rcases ge with g | g | g | g
      · exact Or.inl (Or.inl (Or.inl (Or.inr ⟨g, by omega⟩)))
      · exact Or.inl (Or.inl (Or.inr ⟨g, by omega⟩))
      · exact Or.inl (Or.inr ⟨g, by omega⟩)
      · exact Or.inr ⟨g, by omega⟩))
  · have hadj := (ty_bes_adj (C := W * H) (e := tw_mn f (tw_mn f (tw_mn f (tw_mn f (-1) (ty_bes W (W * H) h 0)) (ty_bes W (W * H) h 1)) (ty_bes W (W * H) h 2)) (ty_bes W (W * H) h 3)) hW hh.1 k2).mpr (by
      rcases k1 with ((( k | k) | k) | k) | k
      · exact k.elim
      · exact Or.inl k.1
      · exact Or.inr (Or.inl k.1)
      · exact Or.inr (Or.inr (Or.inl k.1))
      · exact Or.inr (Or.inr (Or.inr k.1)))
    refine ⟨⟨(ty_adj_s hW hh hadj).1, hadj, k3⟩, fun e e0 e1 e2 e3 => k4 e ?_ e3⟩
    have ge := (ty_bes_adj (C := W * H) hW hh.1 e0).mp e2
    rcases ge with g | g | g | g
    · exact Or.inl (Or.inl (Or.inl (Or.inr ⟨g, by omega⟩)))
    · exact Or.inl (Or.inl (Or.inr ⟨g, by omega⟩))
    · exact Or.inl (Or.inr ⟨g, by omega⟩)
    · exact Or.inr ⟨g, by omega⟩
theorem tw_212_p (hr : px_hr r) (d : Nat) (l : MI) (B : Nat → Int → Bool) (a W C : Int) (n : Nat) (hn : n ≤ 36) (hst : ∀ j : Nat, j < n → ∀ c, 0 ≤ c → c < C → B j c = true → ty_nb W C (B (j + 1)) c = true) : ∀ (s k : Nat) (i : MI) (h : Int) (v4 v5 v6 : PV), px_nl v4 → px_nl v5 → px_nl v6 → k + s = n → i 123 0 = W → i 123 2 = C → (2 ≤ i 123 0 ∧ i 123 0 ≤ 6) → (2 ≤ i 123 1 ∧ i 123 1 ≤ 6) → i 123 2 = i 123 0 * i 123 1 → i 123 2 ≤ 36 → (0 ≤ h ∧ h < C) → B k h = true → tw_pt W C B a k h → (∀ j : Nat, j ≤ n → ∀ e, 0 ≤ e → e < C → i 147 (36 * (j : Int) + e) = ty_b (B j e)) →
    ∃ i1 : MI, px_X (d + 1 + 1) 212 (190, [vR 123, vI (n : Int), vI h, vI ((k + 1 : Nat) : Int), v4, v5, v6], []) (px_sh L, i, l, r, t) = some (none, (px_sh L, i1, l, r, t)) ∧ ty_ch [148] i i1 ∧ (∀ j : Nat, k ≤ j → j < n → tw_pt W C B a (j + 1) (i1 148 (j : Int))) ∧ ∀ x : Int, x < (k : Int) → i1 148 x = i 148 x
  | 0, k, i, h, v4, v5, v6, n4, n5, n6, hs, eW, eC, hW, hH, hC, hC36, hh, hB, hpt, hrow => by
    refine ⟨i, ?_, ty_ch_rf, fun j j0 j1 => by omega, fun _ _ => rfl⟩
    rw [b212_190 hr _ _ _ _ _ _ n4 n5 n6, if_pos (by omega)]
  | s + 1, k, i, h, v4, v5, v6, n4, n5, n6, hs, eW, eC, hW, hH, hC, hC36, hh, hB, hpt, hrow => by
    have hh' : 0 ≤ h ∧ h < i 123 2 := by rw [eC]; exact hh
    have hf : ∀ e : Int, 0 ≤ e → e < i 123 2 → i 147 (36 * ((k + 1 : Nat) : Int) + e) = ty_b (B (k + 1) e) := fun e e0 e1 => hrow (k + 1) (by omega) e e0 (by omega)
    obtain ⟨w0, p0, r0⟩ := tw_212_q (L := L) (r := r) (t := t) hr d i l hW hH hC hC36 (n : Int) h ((k + 1 : Nat) : Int) (-1) 0 (by omega) hh' (by omega) (B (k + 1)) hf n6
    obtain ⟨w1, p1, r1⟩ := tw_212_q (L := L) (r := r) (t := t) hr d i l hW hH hC hC36 (n : Int) h ((k + 1 : Nat) : Int) _ 1 (by omega) hh' (by omega) (B (k + 1)) hf p0
    obtain ⟨w2, p2, r2⟩ := tw_212_q (L := L) (r := r) (t := t) hr d i l hW hH hC hC36 (n : Int) h ((k + 1 : Nat) : Int) _ 2 (by omega) hh' (by omega) (B (k + 1)) hf p1
    obtain ⟨w3, p3, r3⟩ := tw_212_q (L := L) (r := r) (t := t) hr d i l hW hH hC hC36 (n : Int) h ((k + 1 : Nat) : Int) _ 3 (by omega) hh' (by omega) (B (k + 1)) hf p2
    have hnb := hst k (by omega) h hh.1 hh.2 hB
    have hCC : C = W * i 123 1 := by rw [← eC, ← eW]; exact hC
    have hnx : tw_nx (i 123 0) (i 123 2) (B (k + 1)) h (tw_mn (B (k + 1)) (tw_mn (B (k + 1)) (tw_mn (B (k + 1)) (tw_mn (B (k + 1)) (-1) (ty_bes (i 123 0) (i 123 2) h 0)) (ty_bes (i 123 0) (i 123 2) h 1)) (ty_bes (i 123 0) (i 123 2) h 2)) (ty_bes (i 123 0) (i 123 2) h 3)) := by
      rw [hC]
      refine tw_mn_nx (B (k + 1)) hW (by rw [← hC]; exact hh') ?_
      rw [← hC, eW, eC]
      exact hnb
    obtain ⟨c, hc⟩ : ∃ c, c = tw_mn (B (k + 1)) (tw_mn (B (k + 1)) (tw_mn (B (k + 1)) (tw_mn (B (k + 1)) (-1) (ty_bes (i 123 0) (i 123 2) h 0)) (ty_bes (i 123 0) (i 123 2) h 1)) (ty_bes (i 123 0) (i 123 2) h 2)) (ty_bes (i 123 0) (i 123 2) h 3) := ⟨_, rfl⟩
    rw [← hc] at hnx r3
    rw [eW, eC] at hnx
    have cu : ty_ch [148] i (px_up i 148 (k : Int) c) := ty_ch_up (by decide)
    have u123 := cu 123 (by decide)
    have u147 := cu 147 (by decide)
    have hpt2 : tw_pt W C B a (k + 1) c := ⟨h, hpt, hnx⟩
    obtain ⟨i1, re, ce, g1, g2⟩ := tw_212_p hr d l B a W C n hn hst s (k + 1) (px_up i 148 (k : Int) c) c (vI c) (vI 4) w3 (px_nl_I _) (px_nl_I _) p3 (by omega) (by rw [u123]; exact eW) (by rw [u123]; exact eC) (by rw [u123]; exact hW) (by rw [u123]; exact hH) (by rw [u123]; exact hC) (by rw [u123]; exact hC36) hnx.1.1 hnx.1.2.2 hpt2 (by rw [u147]; exact hrow)
    refine ⟨i1, ?_, ty_ch_tr cu ce rfl rfl, fun j j0 j1 => ?_, fun x hx => ?_⟩
    · rw [b212_190 hr _ _ _ _ _ _ n4 n5 n6, if_neg (by omega)]
      refine (show _ = _ from r0).trans ((show _ = _ from r1).trans ((show _ = _ from r2).trans ((show _ = _ from r3).trans ?_)))
      show px_X (d + 1 + 1) 212 (201, [vR 123, vI (n : Int), vI h, vI ((k + 1 : Nat) : Int), vI c, vI 4, w3], []) (px_sh L, i, l, r, t) = _
      have hb := b212_201 (L := L) (t := t) hr (d + 1) i l (n : Int) h ((k + 1 : Nat) : Int) c 4 p3
      rw [show px_w32 (((k + 1 : Nat) : Int) - 1) = (k : Int) by rw [ty_w (by omega)]; omega, show px_w32 (((k + 1 : Nat) : Int) + 1) = ((k + 1 + 1 : Nat) : Int) by rw [ty_w (by omega)]; omega] at hb
      rw [hb (by intros; omega), if_pos (by omega)]
      exact re
    · by_cases e : j = k
      · rw [e, g2 _ (by omega), ty_up_eq]
        exact hpt2
      · exact g1 j (by omega) j1
    · rw [g2 x (by omega), ty_up_j (by omega)]
/-- laysPath -/
theorem tw_212 (hr : px_hr r) (d : Nat) (i l : MI) (com : Nat → Int → Bool) (sh : Int → Bool) (a : Int) (n : Nat) (hn : 1 ≤ n ∧ n ≤ 36) (hW : 2 ≤ i 123 0 ∧ i 123 0 ≤ 6) (hH : 2 ≤ i 123 1 ∧ i 123 1 ≤ 6) (hC : i 123 2 = i 123 0 * i 123 1) (hC36 : i 123 2 ≤ 36) (hsh : ∀ e, 0 ≤ e → e < i 123 2 → decide (i 124 (21 + 2 * e) = 1) = sh e) (ha : i 124 0 = a ∧ 0 ≤ a ∧ a < i 123 2) (hcom : ∀ j : Nat, j ≤ n → ∀ e, 0 ≤ e → e < i 123 2 → i 147 (36 * (j : Int) + e) = ty_b (com j e)) (h0 : tw_B (i 123 0) (i 123 2) com sh n 0 a = true) :
    ∃ i1 : MI, px_C (d + 1 + 1) 212 [vR 123, vI (n : Int)] (px_sh L, i, l, r, t) = some (none, (px_sh L, i1, l, r, t)) ∧ ty_ch [147, 148] i i1 ∧ ∀ j : Nat, j < n → tw_pt (i 123 0) (i 123 2) (tw_B (i 123 0) (i 123 2) com sh n) a (j + 1) (i1 148 (j : Int)) := by
  have hC0 : 0 ≤ i 123 2 := by omega
  obtain ⟨ia, ra, ca, g1, g2⟩ := tw_212_n (L := L) (r := r) (t := t) hr (d + 1) l (com n) sh n hn (i 123 2).toNat i 0 hC36 hsh (by omega) (by omega) (fun e e0 e1 => hcom n (Nat.le_refl _) e e0 e1)
  have a123 := ca 123 (by decide)
  have a124 := ca 124 (by decide)
  obtain ⟨ib, w4, w5, w6, rb, p4, p5, p6, cb, hb⟩ := tw_212_k (L := L) (r := r) (t := t) hr d l com sh n hn.2 (n : Int) (i 123 0) (i 123 2) n ia vJ vJ vJ vJ px_nl_J px_nl_J px_nl_J px_nl_J (by rw [a123]) (by rw [a123]) (by rw [a123]; exact hW) (by rw [a123]; exact hH) (by rw [a123]; exact hC) (by rw [a123]; exact hC36) (Nat.le_refl _) (fun j j0 j1 e e0 e1 => by
    have ej : j = n := by omega
    rw [ej, g1 e e0 e1, tw_B_n]) (fun j hj e e0 e1 => by
    rw [g2 _ (by omega)]
    exact hcom j (by omega) e e0 e1)
  have b123 := cb 123 (by decide)
  obtain ⟨ic, rc, cc, h1, h2⟩ := tw_212_p (L := L) (r := r) (t := t) hr d l (tw_B (i 123 0) (i 123 2) com sh n) a (i 123 0) (i 123 2) n hn.2 (fun j hj c _ _ hx => by
    rw [tw_B_j hj, Bool.and_eq_true] at hx
    exact hx.2) n 0 ib a w4 w5 w6 p4 p5 p6 (by omega) (by rw [b123, a123]) (by rw [b123, a123]) (by rw [b123, a123]; exact hW) (by rw [b123, a123]; exact hH) (by rw [b123, a123]; exact hC) (by rw [b123, a123]; exact hC36) ha.2 h0 rfl hb
  refine ⟨ic, ?_, ty_ch_tr (ty_ch_tr ca cb (S'' := [147]) rfl rfl) cc rfl rfl, fun j hj => h1 j (Nat.zero_le _) hj⟩
  rw [a124, ha.1] at rb
  rw [e212, b212_0 hr]
  exact (show _ = _ from ra).trans (rb.trans rc)
end TYWC
