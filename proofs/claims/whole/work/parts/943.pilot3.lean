/-! A pilot: the class's measure (81), aimFrom (83), lead (82). -/
theorem tq_D {S : List Nat} {i i' l : MI} (hD : ty_D i l) (hc : ty_ch S i i') (hS : S.all (fun k => decide (58 < k ∧ k ≠ 123)) = true) : ty_D i' l := by
  have hm : ∀ k, k ∈ S → 58 < k ∧ k ≠ 123 := fun k hk => of_decide_eq_true (List.all_eq_true.mp hS k hk)
  have e : ∀ k, (k ≤ 58 ∨ k = 123) → i' k = i k := fun k h => hc k (fun hk => by have := hm _ hk; omega)
  have e123 := e 123 (by omega)
  have e19 := e 19 (by omega)
  exact ty_D_c (by rw [e123]) (by rw [e123]) (by rw [e123]) (by rw [e19]) (by rw [e19]) (by rw [e19]) rfl rfl rfl (ty_gs_fr (fun k _ k1 => e k (by omega))) hD
theorem tq_Dl {S : List Nat} {i l l' : MI} (hD : ty_D i l) (hc : ty_ch S l l') (hS : S.all (fun k => decide (58 < k)) = true) : ty_D i l' := by
  have hm : ∀ k, k ∈ S → 58 < k := fun k hk => of_decide_eq_true (List.all_eq_true.mp hS k hk)
  have e19 : l' 19 = l 19 := hc 19 (fun hk => by have := hm _ hk; omega)
  exact ty_D_c rfl rfl rfl rfl rfl rfl (by rw [e19]) (by rw [e19]) (by rw [e19]) (ty_gs_fr (fun k _ _ => rfl)) hD
theorem tq_bit {C S c : Int} {f : Int → Bool} (h : ty_set C S f) (hC : C ≤ 36) (hc : 0 ≤ c ∧ c < C) : px_cmp (px_land (px_lshr S c) 1) 1 = 0 ↔ f c = true := by
  have hp := ty_p36 hC
  have hb := h.1
  rw [ty_lbit_i (by omega) (by omega), h.2 c hc.1 hc.2, cmp_eq]
  cases f c
  · rw [if_neg (by decide)]
    exact ⟨fun h => absurd h (by decide), fun h => absurd h (by decide)⟩
  · rw [if_pos rfl]
    exact ⟨fun _ => rfl, fun _ => rfl⟩
section TQA
variable {L t : Nat} {r : MR}
theorem q39 (hr : px_hr r) (d : Nat) (i l : MI) (C : Int) (sh : Int → Bool) (hC : i 19 2 = C) (hC36 : C ≤ 36) (hs : ty_set C (l 19 7) sh) (c : Int) (hc : 0 ≤ c ∧ c < C) : px_C (d + 1) 39 [vR 19, vI c] (px_sh L, i, l, r, t) = some (some (vI (ty_b (sh c))), (px_sh L, i, l, r, t)) := by
  rw [e39, b39_0 hr, q37 hr, Option.bind_some, px_psh_some, b39_5 hr, px_bi_T (by rw [hC]; exact hc), if_neg (by decide)]
  by_cases h : sh c = true
  · rw [if_pos ((tq_bit hs hC36 hc).mpr h), h]
    rfl
  · rw [if_neg (fun q => h ((tq_bit hs hC36 hc).mp q))]
    cases hb : sh c with
    | false => rfl
    | true => exact absurd hb h
theorem tq_81_c (hr : px_hr r) (d : Nat) (l : MI) (x1 E k C : Int) (f : Int → Bool) (hE : ty_set C E f) (hC36 : C ≤ 36) : ∀ (n : Nat) (i : MI) (c : Int), i 19 2 = C → 0 ≤ c → c + n = C →
    ∃ i1 : MI, px_X (d + 1) 81 (61, [vR 110, vL x1, vJ, vL E, vJ, vI k, vI c], []) (px_sh L, i, l, r, t) = px_X (d + 1) 81 (21, [vR 110, vL x1, vJ, vL E, vJ, vI (px_w32 (k + 1)), vI C], []) (px_sh L, i1, l, r, t) ∧ ty_ch [113] i i1 ∧ ∀ x, 0 ≤ x → x < C → i1 113 x = if c ≤ x ∧ f x = true then k else i 113 x
  | 0, i, c, hC, h0, hn => by
    refine ⟨i, ?_, ty_ch_rf, fun x x0 x1 => by rw [if_neg (fun h => by omega)]⟩
    rw [b81_61 hr, if_pos (by omega), show c = C by omega]
  | n + 1, i, c, hC, h0, hn => by
    have wc : px_w32 (c + 1) = c + 1 := ty_w (by omega)
    have hb := tq_bit hE hC36 (c := c) ⟨h0, by omega⟩
    by_cases h : f c = true
    · obtain ⟨i1, r1, c1, p1⟩ := tq_81_c hr d l x1 E k C f hE hC36 n (px_up i 113 c k) (c + 1) (by rw [ty_up_row (by decide)]; exact hC) (by omega) (by omega)
      refine ⟨i1, ?_, ty_ch_tr (ty_ch_up (S := [113]) (by decide)) c1 rfl rfl, fun x x0 x1 => ?_⟩
      · rw [b81_61 hr, if_neg (by omega), if_pos (hb.mpr h), q34i hr _ _ _ (px_s113 L) (Nat.le_of_ble_eq_true rfl) _ _ (by omega), Option.bind_some, px_psh_none, b81_95 hr, wc, r1]
      · rw [p1 x x0 x1]
        by_cases e : x = c
        · rw [if_neg (fun h => by omega), e, ty_up_eq, if_pos ⟨Int.le_refl _, h⟩]
        · rw [ty_up_j e]
          by_cases q : c + 1 ≤ x ∧ f x = true
          · rw [if_pos q, if_pos ⟨by omega, q.2⟩]
          · rw [if_neg q, if_neg (fun h => q ⟨by omega, h.2⟩)]
    · obtain ⟨i1, r1, c1, p1⟩ := tq_81_c hr d l x1 E k C f hE hC36 n i (c + 1) hC (by omega) (by omega)
      refine ⟨i1, ?_, c1, fun x x0 x1 => ?_⟩
      · rw [b81_61 hr, if_neg (by omega), if_neg (fun q => h (hb.mp q)), wc, r1]
      · rw [p1 x x0 x1]
        by_cases q : c + 1 ≤ x ∧ f x = true
        · rw [if_pos q, if_pos ⟨by omega, q.2⟩]
        · rw [if_neg q, if_neg (fun hh => q ⟨by
            by_cases e : x = c
            · rw [e] at hh
              exact absurd hh.2 h
            · omega, hh.2⟩)]
/-- what a round has found: ahead of the first nothing -/
def tq_pv (W C : Int) (sh : Int → Bool) : Nat → Int → Bool
  | 0, _ => false
  | k + 1, c => tq_R W C sh k c
theorem tq_pv_R {W C : Int} {sh : Int → Bool} {c : Int} : ∀ {k : Nat}, tq_pv W C sh k c = true → tq_R W C sh k c = true
  | 0, h => absurd h Bool.false_ne_true
  | _ + 1, h => tq_R_1 h
theorem tq_ed {W C : Int} {sh : Int → Bool} (k : Nat) (c : Int) : (ty_nb W C (fun e => tq_R W C sh k e && !tq_pv W C sh k e) c && !tq_R W C sh k c) = (tq_R W C sh (k + 1) c && !tq_R W C sh k c) := by
  have e : tq_R W C sh (k + 1) c = (tq_R W C sh k c || ty_nb W C (tq_R W C sh k) c) := rfl
  rw [e]
  cases hk : tq_R W C sh k c with
  | true => rw [Bool.not_true, Bool.and_false, Bool.and_false]
  | false =>
    rw [Bool.not_false, Bool.and_true, Bool.and_true, Bool.false_or]
    cases h2 : ty_nb W C (tq_R W C sh k) c with
    | true =>
      obtain ⟨x, ha, hx⟩ := ty_nb_adj.mp h2
      refine ty_nb_adj.mpr ⟨x, ha, ?_⟩
      cases hp : tq_pv W C sh k x with
      | false => rw [hx]; rfl
      | true =>
        cases k with
        | zero => exact absurd hp Bool.false_ne_true
        | succ k' =>
          have := tq_R_s (k := k') (c := c) (e := x) hp ha
          rw [this] at hk
          exact absurd hk (by decide)
    | false =>
      cases h3 : ty_nb W C (fun e => tq_R W C sh k e && !tq_pv W C sh k e) c with
      | false => rfl
      | true =>
        obtain ⟨x, ha, hx⟩ := ty_nb_adj.mp h3
        have hx' : (tq_R W C sh k x && !tq_pv W C sh k x) = true := hx
        rw [Bool.and_eq_true] at hx'
        have := ty_nb_adj.mpr ⟨x, ha, hx'.1⟩
        rw [this] at h2
        exact absurd h2 (by decide)
theorem tq_81_k (hr : px_hr r) (d : Nat) (l : MI) (W H C : Int) (sh : Int → Bool) (hW : 2 ≤ W ∧ W ≤ 6) (hWH : C = W * H) (hC36 : 4 ≤ C ∧ C ≤ 36) (hall : ∀ c, 0 ≤ c → c < C → tq_R W C sh C.toNat c = true) : ∀ (n k : Nat) (i : MI) (seen E : Int) (v6 : PV), px_nl v6 → ty_D i l → i 123 0 = W → i 123 2 = C → i 19 2 = C → (k : Int) + n = C → ty_set C seen (tq_R W C sh k) → ty_set C E (fun c => tq_R W C sh k c && !tq_pv W C sh k c) → (∀ c, 0 ≤ c → c < C → tq_R W C sh k c = true → tq_far W C sh (i 113 c) c) →
    ∃ i1 : MI, px_X (d + 1) 81 (21, [vR 110, vL seen, vJ, vL E, vJ, vI ((k : Int) + 1), v6], []) (px_sh L, i, l, r, t) = some (none, (px_sh L, i1, l, r, t)) ∧ ty_ch [113] i i1 ∧ ∀ c, 0 ≤ c → c < C → tq_far W C sh (i1 113 c) c
  | 0, k, i, seen, E, v6, h6, hD, h0, h2, h19, hn, hs, hE, hf => by
    refine ⟨i, ?_, ty_ch_rf, fun c c0 c1 => hf c c0 c1 ?_⟩
    · rw [b81_21 hr _ _ _ _ _ _ h6, if_pos (by omega)]
    · rw [show k = C.toNat by omega]
      exact hall c c0 c1
  | n + 1, k, i, seen, E, v6, h6, hD, h0, h2, h19, hn, hs, hE, hf => by
    by_cases hz : E = 0
    · have hz' := (ty_set_ne hE).mp hz
      refine ⟨i, ?_, ty_ch_rf, fun c c0 c1 => hf c c0 c1 ?_⟩
      · rw [b81_21 hr _ _ _ _ _ _ h6, if_neg (by omega), if_pos (ty_cmp0.mpr hz)]
      · have hst : ∀ c, 0 ≤ c → c < C → tq_R W C sh k c = tq_pv W C sh k c := fun c c0 c1 => by
          have h := hz' c c0 c1
          have h' : (tq_R W C sh k c && !tq_pv W C sh k c) = false := h
          cases h3 : tq_R W C sh k c with
          | false =>
            cases h4 : tq_pv W C sh k c with
            | false => rfl
            | true =>
              rw [tq_pv_R h4] at h3
              exact absurd h3 (by decide)
          | true =>
            rw [h3] at h'
            cases h4 : tq_pv W C sh k c with
            | false =>
              rw [h4] at h'
              exact absurd h' (by decide)
            | true => rfl
        cases k with
        | zero =>
          have hno := tq_none (sh := sh) hW hWH (fun c c0 c1 => hst c c0 c1) C.toNat 0 (by omega) (by omega)
          rw [hall 0 (by omega) (by omega)] at hno
          exact absurd hno (by decide)
        | succ k' =>
          have hst2 := tq_stop (sh := sh) hW hWH (k := k') (fun c c0 c1 => hst c c0 c1) (C.toNat - k') c c0 c1
          rw [show k' + (C.toNat - k') = C.toNat by omega, hall c c0 c1] at hst2
          exact tq_R_1 hst2.symm
    · obtain ⟨R, hR, hRs⟩ := q42 (L := L) (r := r) (t := t) hr d i l hD (S := E) (f := fun c => tq_R W C sh k c && !tq_pv W C sh k c) (by rw [h2]; exact hE)
      rw [h0, h2] at hRs
      have hE' : ty_set C (px_land R (px_lxor seen (-1))) (fun c => tq_R W C sh (k + 1) c && !tq_R W C sh k c) := ty_set_c (ty_set_lan hC36.2 hRs hs) (fun c _ _ => (tq_ed k c).symm)
      have hs' : ty_set C (px_lor seen (px_land R (px_lxor seen (-1)))) (tq_R W C sh (k + 1)) := ty_set_c (ty_set_lor hC36.2 hs hE') (fun c _ _ => by
        show tq_R W C sh (k + 1) c = (tq_R W C sh k c || (tq_R W C sh (k + 1) c && !tq_R W C sh k c))
        cases h3 : tq_R W C sh k c with
        | true =>
          rw [tq_R_1 h3]
          rfl
        | false =>
          rw [Bool.false_or, Bool.not_false, Bool.and_true])
      obtain ⟨ia, ra, ca, pa⟩ := tq_81_c (L := L) (r := r) (t := t) hr d l (px_lor seen (px_land R (px_lxor seen (-1)))) (px_land R (px_lxor seen (-1))) ((k : Int) + 1) C _ hE' hC36.2 C.toNat i 0 h19 (by omega) (by omega)
      rw [tg_wc2 (c := k) (by omega)] at ra
      obtain ⟨i1, r1, c1, p1⟩ := tq_81_k hr d l W H C sh hW hWH hC36 hall n (k + 1) ia _ _ (vI C) (px_nl_I _) (tq_D hD ca rfl) (by rw [ca 123 (by decide)]; exact h0) (by rw [ca 123 (by decide)]; exact h2) (by rw [ca 19 (by decide)]; exact h19) (by omega) hs' hE' (fun c c0 c1 hc => by
        rw [pa c c0 c1]
        by_cases hk : tq_R W C sh k c = true
        · rw [if_neg (fun h => by
            have h' : (tq_R W C sh (k + 1) c && !tq_R W C sh k c) = true := h.2
            rw [hk, Bool.not_true, Bool.and_false] at h'
            exact absurd h' (by decide))]
          exact hf c c0 c1 hk
        · have hk' : tq_R W C sh k c = false := by
            cases hb : tq_R W C sh k c with
            | false => rfl
            | true => exact absurd hb hk
          rw [if_pos ⟨c0, by
            show (tq_R W C sh (k + 1) c && !tq_R W C sh k c) = true
            rw [hc, hk']
            rfl⟩]
          refine ⟨by omega, ?_, fun j hj => ?_⟩
          · rw [show ((k : Int) + 1).toNat = k + 1 by omega]
            exact hc
          · cases hb : tq_R W C sh j c with
            | false => rfl
            | true => exact absurd (tq_R_le hb (by omega)) hk)
      refine ⟨i1, ?_, ty_ch_tr ca c1 rfl rfl, p1⟩
      rw [b81_21 hr _ _ _ _ _ _ h6, if_neg (by omega), if_neg (fun h => hz (ty_cmp0.mp h)), hR, Option.bind_some, px_psh_some, b81_47 hr _ _ _ _ _ _ h6, ra, r1]
/-- measure -/
theorem tq_81 (hr : px_hr r) (d : Nat) (i l : MI) (sh : Int → Bool) (hD : ty_D i l) (hs : ty_set (i 123 2) (l 19 7) sh) (hall : ∀ c, 0 ≤ c → c < i 123 2 → tq_R (i 123 0) (i 123 2) sh (i 123 2).toNat c = true) :
    ∃ i1 : MI, px_C (d + 1) 81 [vR 110] (px_sh L, i, l, r, t) = some (none, (px_sh L, i1, l, r, t)) ∧ ty_ch [113] i i1 ∧ ∀ c, 0 ≤ c → c < i 123 2 → tq_far (i 123 0) (i 123 2) sh (i1 113 c) c := by
  have hdim := ty_D_2 hD
  obtain ⟨j, hj⟩ : ∃ j : MI, j = px_un i 113 (fun j => if 0 ≤ j ∧ j < ((36 : Nat) : Int) then 0 else i 113 j) := ⟨_, rfl⟩
  have cj : ty_ch [113] i j := by
    rw [hj]
    exact ty_ch_un (by decide)
  have j123 := cj 123 (by decide)
  obtain ⟨i1, r1, c1, p1⟩ := tq_81_k (L := L) (r := r) (t := t) hr d l (i 123 0) (i 123 1) (i 123 2) sh hD.1 hD.2.2.1 hdim hall (i 123 2).toNat 0 j (l 19 7) (l 19 7) vJ px_nl_J (tq_D hD cj rfl) (by rw [j123]) (by rw [j123]) (by rw [cj 19 (by decide)]; exact hD.2.2.2.2.2.1) (by omega) hs (ty_set_c hs (fun c _ _ => by
    show (sh c && !false) = sh c
    rw [Bool.not_false, Bool.and_true])) (fun c c0 c1 hc => by
    have e : j 113 c = 0 := by
      rw [hj, ty_un_eq, if_pos (by omega)]
    rw [e]
    exact ⟨Int.le_refl 0, hc, fun k hk => by omega⟩)
  refine ⟨i1, ?_, ty_ch_tr cj c1 rfl rfl, p1⟩
  have r1' : px_X (d + 1) 81 (21, [vR 110, vL (l 19 7), vJ, vL (l 19 7), vJ, vI 1, vJ], []) (px_sh L, j, l, r, t) = _ := r1
  rw [e81, b81_0 hr, q241 hr _ _ _ (px_s113 L) (Nat.le_of_ble_eq_true rfl) (by omega), Option.bind_some, px_psh_none, ← hj, b81_18 hr, r1']
theorem tq_83_s (hr : px_hr r) (d : Nat) (i l : MI) (A : Int → Int) (hD : ty_D i l) (c s : Int) (hc : 0 ≤ c ∧ c < i 123 2) (hs : s = 0 ∨ s = 1 ∨ s = 2 ∨ s = 3) (hA : ∀ e, 0 ≤ e → e < i 123 2 → i 113 e = A e) {v3 : PV} (hn3 : px_nl v3) :
    px_X (d + 1 + 1) 83 (2, [vR 110, vI c, vI s, v3], []) (px_sh L, i, l, r, t) = if ¬ ty_bes (i 123 0) (i 123 2) c (ty_sd s) = -1 ∧ A (ty_bes (i 123 0) (i 123 2) c (ty_sd s)) < A c then some (some (vI (ty_bes (i 123 0) (i 123 2) c (ty_sd s))), (px_sh L, i, l, r, t)) else px_X (d + 1 + 1) 83 (2, [vR 110, vI c, vI (s + 1), vI (ty_bes (i 123 0) (i 123 2) c (ty_sd s))], []) (px_sh L, i, l, r, t) := by
  have hdim := ty_D_2 hD
  have hb := ty_bes_b (W := i 123 0) (H := i 123 1) (c := c) (s := ty_sd s) hD.1 (by rw [← hD.2.2.1]; exact hc)
  rw [← hD.2.2.1] at hb
  have ws : px_w32 (s + 1) = s + 1 := ty_w (by omega)
  rw [b83_2 hr _ _ _ _ _ hn3, if_neg (by omega), q41 hr _ _ _ hD c s hc hs, Option.bind_some, px_psh_some, b83_16 hr _ _ _ _ _ hn3, ws]
  obtain ⟨b, hbb⟩ : ∃ b, b = ty_bes (i 123 0) (i 123 2) c (ty_sd s) := ⟨_, rfl⟩
  rw [← hbb] at hb ⊢
  by_cases h1 : b = -1
  · rw [if_pos h1, if_neg (fun h => h.1 h1)]
  · rw [if_neg h1, q33i hr _ _ _ (px_s113 L) (Nat.le_of_ble_eq_true rfl) _ (by omega), Option.bind_some, px_psh_some, b83_30 hr, q33i hr _ _ _ (px_s113 L) (Nat.le_of_ble_eq_true rfl) _ (by omega), Option.bind_some, px_psh_some, b83_38 hr, ws, hA c hc.1 hc.2, hA b (by omega) (by omega)]
    by_cases h2 : A c ≤ A b
    · rw [if_pos h2, if_neg (fun h => by omega)]
    · rw [if_neg h2, if_pos ⟨h1, by omega⟩]
/-- aimFrom -/
theorem tq_83 (hr : px_hr r) (d : Nat) (i l : MI) (A : Int → Int) (hD : ty_D i l) (c : Int) (hc : 0 ≤ c ∧ c < i 123 2) (hA : ∀ e, 0 ≤ e → e < i 123 2 → i 113 e = A e) :
    px_C (d + 1 + 1) 83 [vR 110, vI c] (px_sh L, i, l, r, t) = some (some (vI (tq_aim (i 123 0) (i 123 2) A c)), (px_sh L, i, l, r, t)) := by
  have s0 := tq_83_s (L := L) (r := r) (t := t) hr d i l A hD c 0 hc (by omega) hA px_nl_J
  have s1 := tq_83_s (L := L) (r := r) (t := t) hr d i l A hD c 1 hc (by omega) hA (px_nl_I (ty_bes (i 123 0) (i 123 2) c (ty_sd 0)))
  have s2 := tq_83_s (L := L) (r := r) (t := t) hr d i l A hD c 2 hc (by omega) hA (px_nl_I (ty_bes (i 123 0) (i 123 2) c (ty_sd 1)))
  have s3 := tq_83_s (L := L) (r := r) (t := t) hr d i l A hD c 3 hc (by omega) hA (px_nl_I (ty_bes (i 123 0) (i 123 2) c (ty_sd 2)))
  have s4 := b83_2 (L := L) (t := t) hr (d + 1) i l c 4 (px_nl_I (ty_bes (i 123 0) (i 123 2) c (ty_sd 3)))
  rw [if_pos (by decide)] at s4
  rw [show (0 : Int) + 1 = 1 from rfl, s1, show (1 : Int) + 1 = 2 from rfl, s2, show (2 : Int) + 1 = 3 from rfl, s3, show (3 : Int) + 1 = 4 from rfl, s4, show ty_sd 0 = 0 from rfl, show ty_sd 1 = 3 from rfl, show ty_sd 2 = 1 from rfl, show ty_sd 3 = 2 from rfl] at s0
  rw [e83, b83_0 hr, s0]
  unfold tq_aim
  repeat' split
  all_goals rfl
end TQA
