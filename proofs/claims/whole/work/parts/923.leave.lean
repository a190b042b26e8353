/-! Leaving: begin, footing, steps of the class; last. -/
theorem ty_set_add {C S c : Int} {f g : Int → Bool} (hC : C ≤ 36) (hc : 0 ≤ c ∧ c < C) (h : ty_set C S f) (hg : ∀ e, 0 ≤ e → e < C → g e = (f e || decide (e = c))) : ty_set C (px_lor S (px_lshl 1 c)) g := ty_set_c (ty_set_lor hC h (ty_set_1 hC hc)) hg
theorem ty_ash_0 {W C a m p Z : Int} {can : Int → Int → Bool} {sh : Int → Bool} {k : Nat} (hC : 0 ≤ C) (h : ty_set C Z (fun c => ty_com W C a m p can k c && sh c)) : px_cmp Z 0 = 0 ↔ ty_ash W C a m p can sh k = false := by
  rw [ty_cmp0, ty_set_ne h]
  unfold ty_ash
  rw [ty_anyc_F, Int.toNat_of_nonneg hC]
section TYLE
variable {L t : Nat} {r : MR}
theorem ty_75_c (hr : px_hr r) (d : Nat) (i l : MI) (hgt : Int → Int) (w v C : Int) {k : Nat} (hk : px_gs k) (hC : i 19 2 = C) (hC36 : 0 ≤ C ∧ C ≤ 36) (hh : ∀ c, 0 ≤ c → c < C → i 20 c = hgt c ∧ 0 ≤ hgt c ∧ hgt c ≤ 99) (hw : i k 6 = w ∧ 0 ≤ w ∧ w ≤ 30) (hv : 0 ≤ v ∧ v < 130) : ∀ (n : Nat) (c S : Int), 0 ≤ c → c + n = C → ty_set C S (fun e => decide (e < c) && decide (v ≤ hgt e + w)) →
    ∃ S' : Int, px_X (d + 1 + 1) 75 (24, [vR 110, vR k, vI v, vL S, vJ, vI c], []) (px_sh L, i, l, r, t) = px_X (d + 1 + 1) 75 (10, [vR 110, vR k, vI (v + 1), vL S', vJ, vI C], []) (px_sh L, i, px_up l 111 v S', r, t) ∧ ty_set C S' (fun e => decide (v ≤ hgt e + w))
  | 0, c, S, h0, hn, hS => by
    have hcC : c = C := by omega
    have w1 : px_w32 (v + 1) = v + 1 := ty_w (by omega)
    refine ⟨S, by rw [b75_24 hr _ _ _ hk _ _ _ (fun _ => hv), if_pos (by omega), w1, hcC], ty_set_c hS (fun e e0 e1 => by rw [decide_eq_true (show e < c by omega), Bool.true_and])⟩
  | n + 1, c, S, h0, hn, hS => by
    have w1 : px_w32 (c + 1) = c + 1 := ty_w (by omega)
    have hhc := hh c h0 (by omega)
    have w2 : px_w32 (hgt c + w) = hgt c + w := ty_w (by omega)
    have hstep : px_X (d + 1 + 1) 75 (24, [vR 110, vR k, vI v, vL S, vJ, vI c], []) (px_sh L, i, l, r, t) = px_X (d + 1 + 1) 75 (46, [vR 110, vR k, vI v, vL S, vJ, vI c], [vI (hgt c), vI v]) (px_sh L, i, l, r, t) := by
      rw [b75_24 hr _ _ _ hk _ _ _ (fun _ => hv), if_neg (by omega), e38, b38_0 hr, q33i hr _ _ _ (px_s20 L) (Nat.le_of_ble_eq_true rfl) _ (by omega), Option.bind_some, px_psh_some, b38_8 hr, Option.bind_some, px_psh_some, hhc.1]
    by_cases hlt : v ≤ hgt c + w
    · obtain ⟨S', e, hs⟩ := ty_75_c hr d i l hgt w v C hk hC hC36 hh hw hv n (c + 1) (px_lor S (px_lshl 1 c)) (by omega) (by omega) (ty_set_add hC36.2 ⟨h0, by omega⟩ hS (fun e e0 e1 => by
        by_cases hec : e = c
        · rw [hec, decide_eq_true (show c < c + 1 by omega), decide_eq_true hlt, decide_eq_true rfl, Bool.or_true]
          rfl
        · rw [decide_eq_false hec, Bool.or_false, decide_eq_decide.mpr (show e < c + 1 ↔ e < c by omega)]))
      exact ⟨S', by rw [hstep, b75_46 hr _ _ _ hk, hw.1, w2, if_neg (by omega), w1, e], hs⟩
    · obtain ⟨S', e, hs⟩ := ty_75_c hr d i l hgt w v C hk hC hC36 hh hw hv n (c + 1) S (by omega) (by omega) (ty_set_c hS (fun e e0 e1 => by
        by_cases hec : e = c
        · rw [hec, decide_eq_false hlt, Bool.and_false, Bool.and_false]
        · rw [decide_eq_decide.mpr (show e < c + 1 ↔ e < c by omega)]))
      exact ⟨S', by rw [hstep, b75_46 hr _ _ _ hk, hw.1, w2, if_pos (by omega), w1, e], hs⟩
theorem ty_75_v (hr : px_hr r) (d : Nat) (i : MI) (hgt : Int → Int) (w C : Int) {k : Nat} (hk : px_gs k) (hC : i 19 2 = C) (hC36 : 0 ≤ C ∧ C ≤ 36) (hh : ∀ c, 0 ≤ c → c < C → i 20 c = hgt c ∧ 0 ≤ hgt c ∧ hgt c ≤ 99) (hw : i k 6 = w ∧ 0 ≤ w ∧ w ≤ 30) : ∀ (n : Nat) (l : MI) (v : Int) (v3 v5 : PV), 0 ≤ v → v + n = 130 →
    ∃ l1 : MI, px_X (d + 1 + 1) 75 (10, [vR 110, vR k, vI v, v3, vJ, v5], []) (px_sh L, i, l, r, t) = some (none, (px_sh L, i, l1, r, t)) ∧ ty_ch [111] l l1 ∧ (∀ u, v ≤ u → u < 130 → ty_set C (l1 111 u) (fun e => decide (u ≤ hgt e + w))) ∧ ∀ u, u < v → l1 111 u = l 111 u
  | 0, l, v, v3, v5, h0, hn => by
    exact ⟨l, by rw [b75_10x hr _ _ _ hk, if_pos (by omega)], ty_ch_rf, fun u _ _ => by omega, fun _ _ => rfl⟩
  | n + 1, l, v, v3, v5, h0, hn => by
    obtain ⟨S', e, hs⟩ := ty_75_c (L := L) (t := t) hr d i l hgt w v C hk hC hC36 hh hw (by omega) C.toNat 0 0 (by omega) (by omega) (ty_set_c ty_set_0 (fun e e0 e1 => by rw [decide_eq_false (show ¬ e < 0 by omega), Bool.false_and]))
    obtain ⟨l1, e1, c1, h1, h2⟩ := ty_75_v hr d i hgt w C hk hC hC36 hh hw n (px_up l 111 v S') (v + 1) (vL S') (vI C) (by omega) (by omega)
    refine ⟨l1, by rw [b75_10x hr _ _ _ hk, if_neg (by omega), e, e1], ty_ch_tr (ty_ch_up (S := [111]) (by decide)) c1 rfl rfl, fun u u0 u1 => ?_, fun u hu => by rw [h2 u (by omega), ty_up_j (by omega)]⟩
    by_cases hu : u = v
    · rw [hu, h2 v (by omega), ty_up_eq]
      exact hs
    · exact h1 u (by omega) u1
theorem q75 (hr : px_hr r) (d : Nat) (i l : MI) (hgt : Int → Int) (w C : Int) {k : Nat} (hk : px_gs k) (hC : i 19 2 = C) (hC36 : 0 ≤ C ∧ C ≤ 36) (hh : ∀ c, 0 ≤ c → c < C → i 20 c = hgt c ∧ 0 ≤ hgt c ∧ hgt c ≤ 99) (hw : i k 6 = w ∧ 0 ≤ w ∧ w ≤ 30) :
    ∃ l1 : MI, px_C (d + 1 + 1) 75 [vR 110, vR k] (px_sh L, i, l, r, t) = some (none, (px_sh L, px_up i 110 7 (i k 5), l1, r, t)) ∧ ty_ch [111] l l1 ∧ ∀ u, 0 ≤ u → u < 130 → ty_set C (l1 111 u) (fun e => decide (u ≤ hgt e + w)) := by
  have hk110 : k ≠ 110 := by
    unfold px_gs at hk
    omega
  obtain ⟨l1, e, c1, h1, -⟩ := ty_75_v (L := L) (t := t) hr d (px_up i 110 7 (i k 5)) hgt w C hk (by rw [ty_up_row (by omega)]; exact hC) hC36 (fun c c0 c1 => by rw [ty_up_row (by omega)]; exact hh c c0 c1) (by rw [ty_up_row hk110]; exact hw) 130 l 0 vJ vJ (by omega) (by omega)
  exact ⟨l1, by rw [e75, b75_0 hr _ _ _ hk, e], c1, h1⟩
/-- the class's bank and guest for steps -/
def ty_CS (i l : MI) (lev hgt : Int → Int) (sh : Int → Bool) (w p a : Int) : Prop :=
  ty_D i l ∧ ty_V i ∧ (∀ x, 0 ≤ x → x < 1440 → ty_lev i x = lev x) ∧ (i 110 7 = p ∧ 1 ≤ p ∧ p ≤ 20) ∧ (i 19 8 = a ∧ 0 ≤ a ∧ a < i 123 2) ∧ ty_set (i 123 2) (l 19 7) sh ∧ (∀ v, 0 ≤ v → v < 130 → ty_set (i 123 2) (l 111 v) (fun c => decide (v ≤ hgt c + w))) ∧ ∀ c, 0 ≤ c → c < i 123 2 → hgt c + w < 130
theorem ty_CS_c {i i' l l' : MI} {lev hgt : Int → Int} {sh : Int → Bool} {w p a : Int} (h : ty_CS i l lev hgt sh w p a) (hc : ty_ch [70, 71, 72] i i') (hV : ty_V i') (hl : ty_ch [112] l l') : ty_CS i' l' lev hgt sh w p a := by
  obtain ⟨hD, hV0, hlev, hp, ha, hs, hf, hb⟩ := h
  have e123 := hc 123 (by decide)
  have e19 := hc 19 (by decide)
  have l19 := hl 19 (by decide)
  refine ⟨ty_D_c (i := i) (l := l) (by rw [e123]) (by rw [e123]) (by rw [e123]) (by rw [e19]) (by rw [e19]) (by rw [e19]) (by rw [l19]) (by rw [l19]) (by rw [l19]) (ty_gs_fr (fun k k0 k1 => hc k (fun h => by
    simp only [List.mem_cons, List.not_mem_nil, or_false] at h
    omega))) hD, hV, fun x x0 x1 => by rw [ty_lev_ch hV0.1 hc rfl]; exact hlev x x0 x1, by rw [hc 110 (by decide)]; exact hp, by rw [e19, e123]; exact ha, by rw [e123, l19]; exact hs, fun v v0 v1 => by rw [e123, hl 111 (by decide)]; exact hf v v0 v1, by rw [e123]; exact hb⟩
theorem q76 (hr : px_hr r) (d : Nat) (i l : MI) (lev hgt : Int → Int) (sh : Int → Bool) (w p a x : Int) (h : ty_CS i l lev hgt sh w p a) (hx : 0 ≤ x) :
    ∃ (i1 : MI) (F : Int), px_C (d + 4 + 1) 76 [vR 110, vI x] (px_sh L, i, l, r, t) = some (some (vL F), (px_sh L, i1, l, r, t)) ∧ ty_ch [70, 71, 72] i i1 ∧ ty_V i1 ∧ ty_set (i 123 2) F (fun c => ty_can lev hgt w c x) := by
  obtain ⟨hD, hV, hlev, hp, ha, hs, hf, hb⟩ := h
  by_cases h1 : 0 ≤ x ∧ x ≤ 1439
  · obtain ⟨i1, e, c1, -, v1⟩ := q65 (L := L) (t := t) hr d i l x hV (by omega)
    have hlx := hlev x h1.1 (by omega)
    have hlb := ty_lev_b (i := i) (m := x) h1.1
    rw [hlx] at e hlb
    by_cases h130 : lev x < 130
    · refine ⟨i1, l 111 (lev x), ?_, c1, v1, ty_set_c (hf (lev x) hlb.1 h130) (fun c c0 c1 => ?_)⟩
      · rw [e76, b76_0 hr, q31 hr, Option.bind_some, px_psh_some, b76_4 hr, px_bi_T h1, if_neg (by omega), e, Option.bind_some, px_psh_some, b76_17 hr _ _ _ _ _ (fun _ _ => by omega), if_neg (by omega), if_neg (by omega)]
      · unfold ty_can
        rw [decide_eq_true h1.2, Bool.true_and]
    · refine ⟨i1, 0, ?_, c1, v1, ty_set_c ty_set_0 (fun c c0 c1 => ?_)⟩
      · rw [e76, b76_0 hr, q31 hr, Option.bind_some, px_psh_some, b76_4 hr, px_bi_T h1, if_neg (by omega), e, Option.bind_some, px_psh_some, b76_17 hr _ _ _ _ _ (fun _ _ => by omega), if_neg (by omega), if_pos (by omega)]
      · unfold ty_can
        have := hb c c0 c1
        rw [decide_eq_false (show ¬ lev x ≤ hgt c + w by omega), Bool.and_false]
  · refine ⟨i, 0, ?_, ty_ch_rf, hV, ty_set_c ty_set_0 (fun c c0 c1 => ?_)⟩
    · rw [e76, b76_0 hr, q31 hr, Option.bind_some, px_psh_some, b76_4 hr, px_bi_F h1, if_pos rfl]
    · unfold ty_can
      rw [decide_eq_false (show ¬ x ≤ 1439 by omega), Bool.false_and]
/-- steps of the class from the k-th on -/
theorem ty_77_k (hr : px_hr r) (d : Nat) (lev hgt : Int → Int) (sh : Int → Bool) (w p a m : Int) (hm : 0 ≤ m ∧ m < 1440) (W C : Int) : ∀ (n : Nat) (i l : MI) (k : Nat) (S : Int), ty_CS i l lev hgt sh w p a → i 123 0 = W → i 123 2 = C → (k : Int) + 1 + n = C + 1 → ty_set C S (ty_com W C a m p (ty_can lev hgt w) k) → (∀ j : Nat, j < k + 1 → ty_set C (l 112 (j : Int)) (ty_com W C a m p (ty_can lev hgt w) j)) →
    ∃ i1 l1 : MI, px_X (d + 4 + 1 + 1) 77 (20, [vR 110, vI m, vL S, vJ, vI ((k : Int) + 1)], []) (px_sh L, i, l, r, t) = some (some (vI (ty_first (ty_ash W C a m p (ty_can lev hgt w) sh) n (k + 1))), (px_sh L, i1, l1, r, t)) ∧ ty_ch [70, 71, 72] i i1 ∧ ty_V i1 ∧ ty_ch [112] l l1 ∧
      ∀ j : Nat, (j : Int) ≤ ty_first (ty_ash W C a m p (ty_can lev hgt w) sh) n (k + 1) → ty_set C (l1 112 (j : Int)) (ty_com W C a m p (ty_can lev hgt w) j)
  | 0, i, l, k, S, hS, hW0, hC0, hn, hset, hrow => by
    have hdim := ty_D_2 hS.1
    have e19 : i 19 2 = i 123 2 := hS.1.2.2.2.2.2.1
    refine ⟨i, l, ?_, ty_ch_rf, hS.2.1, ty_ch_rf, fun j hj => ?_⟩
    · rw [b77_20 hr]
      by_cases h37 : 37 ≤ (k : Int) + 1
      · rw [if_pos h37]
        rfl
      · rw [if_neg h37, if_pos (by omega)]
        rfl
    · have : ty_first (ty_ash W C a m p (ty_can lev hgt w) sh) 0 (k + 1) = -1 := rfl
      omega
  | n + 1, i, l, k, S, hS, hW0, hC0, hn, hset, hrow => by
    have hS' := hS
    obtain ⟨hD, hV, hlev, hp, ha, hs, hf, hb⟩ := hS
    have hdim := ty_D_2 hD
    have hWb : 2 ≤ W ∧ W ≤ 6 := by rw [← hW0]; exact hD.1
    have hCW : C = W * i 123 1 := by rw [← hC0, ← hW0]; exact hD.2.2.1
    have e19 : i 19 2 = i 123 2 := hD.2.2.2.2.2.1
    by_cases hS0 : S = 0
    · have hnone : ty_first (ty_ash W C a m p (ty_can lev hgt w) sh) (n + 1) (k + 1) = -1 := by
        refine ty_first_none (n + 1) (k + 1) (fun j hj => ?_)
        unfold ty_ash
        rw [ty_anyc_F]
        intro c c0 c1
        have h1 : ∀ c, 0 ≤ c → c < W * i 123 1 → ty_com W (W * i 123 1) a m p (ty_can lev hgt w) k c = false := fun c c0 c1 => by
          rw [← hCW]
          exact (ty_set_ne hset).mp hS0 c c0 (by rw [hCW]; exact c1)
        have h2 := ty_com_none hWb h1 (j - k) c c0 (by rw [← hCW]; omega)
        rw [show k + (j - k) = j by omega, ← hCW] at h2
        rw [h2, Bool.false_and]
      rw [hnone]
      refine ⟨i, l, ?_, ty_ch_rf, hV, ty_ch_rf, fun j hj => by omega⟩
      rw [b77_20 hr, if_neg (by omega), if_neg (by omega), if_pos (ty_cmp0.mpr hS0)]
    · obtain ⟨K, hK⟩ : ∃ K : Int, K = ((k + 1 : Nat) : Int) := ⟨_, rfl⟩
      have hK1 : (k : Int) + 1 = K := by omega
      have hKb : 1 ≤ K ∧ K ≤ 36 := by omega
      have hkp := ty_kp (k := K) (p := p) (by omega) hp.2
      obtain ⟨T, hT⟩ : ∃ T : Int, T = m + K * p := ⟨_, rfl⟩
      have hT0 : 0 ≤ T := by omega
      have w1 : px_w32 (K * p) = K * p := ty_w (by omega)
      have w2 : px_w32 (m + K * p) = T := by rw [ty_w (by omega)]; exact hT.symm
      have w3 : px_w32 (K + 1) = ((k + 1 : Nat) : Int) + 1 := by rw [ty_w (by omega)]; omega
      have hcm : ∀ c, ty_com W C a m p (ty_can lev hgt w) (k + 1) c = (ty_nb W C (ty_com W C a m p (ty_can lev hgt w) k) c && ty_can lev hgt w c T) := fun c => by
        rw [hT, hK]
        rfl
      clear hkp
      obtain ⟨R, eR, hR⟩ := q42 (L := L) (r := r) (t := t) hr (d + 4 + 1) i l hD (S := S) (f := ty_com W C a m p (ty_can lev hgt w) k) (by rw [hC0]; exact hset)
      obtain ⟨i1, F, eF, c1, v1, hF⟩ := q76 (L := L) (r := r) (t := t) hr d i l lev hgt sh w p a T hS' hT0
      obtain ⟨Z, hZ⟩ : ∃ Z : Int, Z = px_land R F := ⟨_, rfl⟩
      have hset2 : ty_set C Z (ty_com W C a m p (ty_can lev hgt w) (k + 1)) := by
        rw [hW0, hC0] at hR
        rw [hC0] at hF
        rw [hZ]
        exact ty_set_c (ty_set_and (by omega) hR hF) (fun c _ _ => hcm c)
      obtain ⟨l1, hl1⟩ : ∃ l1 : MI, l1 = px_up l 112 K Z := ⟨_, rfl⟩
      have cl : ty_ch [112] l l1 := by
        rw [hl1]
        exact ty_ch_up (by decide)
      have hrow' : ∀ j : Nat, j < k + 1 + 1 → ty_set C (l1 112 (j : Int)) (ty_com W C a m p (ty_can lev hgt w) j) := fun j hj => by
        by_cases hjk : j = k + 1
        · rw [hjk, hl1, ← hK, ty_up_eq]
          exact hset2
        · rw [hl1, ty_up_j (by omega)]
          exact hrow j (by omega)
      have hgo : px_X (d + 4 + 1 + 1) 77 (20, [vR 110, vI m, vL S, vJ, vI ((k : Int) + 1)], []) (px_sh L, i, l, r, t) = px_X (d + 4 + 1 + 1) 77 (84, [vR 110, vI m, vL Z, vJ, vI K], []) (px_sh L, i1, l1, r, t) := by
        rw [hK1, b77_20 hr, if_neg (by omega), if_neg (by omega), if_neg (fun h => hS0 (ty_cmp0.mp h)), if_neg (by omega), eR, Option.bind_some, px_psh_some, b77_61 hr, hp.1, w1, w2, eF, Option.bind_some, px_psh_some, b77_74 hr _ _ _ _ _ _ _ _ (by omega), ← hZ, ← hl1]
      have hS1 := ty_CS_c hS' c1 v1 cl
      have hsd := ty_set_and (by omega) hset2 (show ty_set C (l1 19 7) sh by rw [cl 19 (by decide), ← hC0]; exact hs)
      have hcmp := ty_ash_0 (by omega) hsd
      unfold ty_first
      by_cases hP : ty_ash W C a m p (ty_can lev hgt w) sh (k + 1) = true
      · rw [if_pos hP]
        refine ⟨i1, l1, ?_, c1, v1, cl, fun j hj => hrow' j (by omega)⟩
        rw [hgo, b77_84 hr, if_neg (fun h => by rw [hcmp.mp h] at hP; exact absurd hP (by decide)), hK]
      · rw [if_neg hP]
        obtain ⟨i2, l2, e2, c2, v2, cl2, h2⟩ := ty_77_k hr d lev hgt sh w p a m hm W C n i1 l1 (k + 1) Z hS1 (by rw [c1 123 (by decide), hW0]) (by rw [c1 123 (by decide), hC0]) (by omega) hset2 hrow'
        refine ⟨i2, l2, ?_, ty_ch_tr c1 c2 rfl rfl, v2, ty_ch_tr cl cl2 rfl rfl, h2⟩
        rw [hgo, b77_84 hr, if_pos (hcmp.mpr (Bool.not_eq_true _ ▸ hP)), w3, e2]
theorem q77 (hr : px_hr r) (d : Nat) (i l : MI) (lev hgt : Int → Int) (sh : Int → Bool) (w p a m : Int) (hm : 0 ≤ m ∧ m < 1440) (h : ty_CS i l lev hgt sh w p a) :
    ∃ i1 l1 : MI, px_C (d + 4 + 1 + 1) 77 [vR 110, vI m] (px_sh L, i, l, r, t) = some (some (vI (ty_steps (i 123 0) (i 123 2) a m p (ty_can lev hgt w) sh)), (px_sh L, i1, l1, r, t)) ∧ ty_ch [70, 71, 72] i i1 ∧ ty_V i1 ∧ ty_ch [112] l l1 ∧
      ∀ j : Nat, (j : Int) ≤ ty_steps (i 123 0) (i 123 2) a m p (ty_can lev hgt w) sh → ty_set (i 123 2) (l1 112 (j : Int)) (ty_com (i 123 0) (i 123 2) a m p (ty_can lev hgt w) j) := by
  have h' := h
  obtain ⟨hD, hV, hlev, hp, ha, hs, hf, hb⟩ := h
  have hdim := ty_D_2 hD
  have e19 : i 19 2 = i 123 2 := hD.2.2.2.2.2.1
  have h1 := ty_set_1 hdim.2 ha.2
  obtain ⟨S, hS⟩ : ∃ S : Int, S = px_lshl 1 a := ⟨_, rfl⟩
  rw [← hS] at h1
  have hS0 : ¬ S = 0 := fun h => by
    have := (ty_set_ne h1).mp h a ha.2.1 ha.2.2
    rw [decide_eq_true rfl] at this
    exact absurd this (by decide)
  obtain ⟨l1, hl1⟩ : ∃ l1 : MI, l1 = px_up l 112 0 S := ⟨_, rfl⟩
  have cl : ty_ch [112] l l1 := by
    rw [hl1]
    exact ty_ch_up (by decide)
  have hgo : px_C (d + 4 + 1 + 1) 77 [vR 110, vI m] (px_sh L, i, l, r, t) = px_X (d + 4 + 1 + 1) 77 (84, [vR 110, vI m, vL S, vJ, vI 0], []) (px_sh L, i, l1, r, t) := by
    rw [e77, b77_0 hr, ha.1, ← hS, ← hl1, b77_20 hr, if_neg (by omega), if_neg (by omega), if_neg (fun h => hS0 (ty_cmp0.mp h)), if_pos (by omega)]
  have hset0 : ty_set (i 123 2) S (ty_com (i 123 0) (i 123 2) a m p (ty_can lev hgt w) 0) := h1
  have hrow : ∀ j : Nat, j < 0 + 1 → ty_set (i 123 2) (l1 112 (j : Int)) (ty_com (i 123 0) (i 123 2) a m p (ty_can lev hgt w) j) := fun j hj => by
    have hj0 : j = 0 := by omega
    rw [hj0, hl1, show ((0 : Nat) : Int) = 0 from rfl, ty_up_eq]
    exact hset0
  have hsd := ty_set_and hdim.2 hset0 (show ty_set (i 123 2) (l1 19 7) sh by rw [cl 19 (by decide)]; exact hs)
  have hcmp := ty_ash_0 (by omega) hsd
  have hst : ty_steps (i 123 0) (i 123 2) a m p (ty_can lev hgt w) sh = if ty_ash (i 123 0) (i 123 2) a m p (ty_can lev hgt w) sh 0 = true then ((0 : Nat) : Int) else ty_first (ty_ash (i 123 0) (i 123 2) a m p (ty_can lev hgt w) sh) (i 123 2).toNat (0 + 1) := rfl
  rw [hst]
  by_cases hP : ty_ash (i 123 0) (i 123 2) a m p (ty_can lev hgt w) sh 0 = true
  · rw [if_pos hP]
    refine ⟨i, l1, ?_, ty_ch_rf, hV, cl, fun j hj => hrow j (by omega)⟩
    rw [hgo, b77_84 hr, if_neg (fun h => by rw [hcmp.mp h] at hP; exact absurd hP (by decide))]
    rfl
  · rw [if_neg hP]
    obtain ⟨i2, l2, e2, c2, v2, cl2, h2⟩ := ty_77_k (L := L) (r := r) (t := t) hr d lev hgt sh w p a m hm (i 123 0) (i 123 2) (i 123 2).toNat i l1 0 S (ty_CS_c h' ty_ch_rf hV cl) rfl rfl (by omega) hset0 hrow
    refine ⟨i2, l2, ?_, c2, v2, ty_ch_tr cl cl2 rfl rfl, h2⟩
    rw [hgo, b77_84 hr, if_pos (hcmp.mpr (Bool.not_eq_true _ ▸ hP)), ty_w (by omega), show (0 : Int) + 1 = ((0 : Nat) : Int) + 1 from rfl, e2]
/-- the last minute of which f doesn't say -1 -/
def ty_dn (f : Int → Int) : Nat → Int
  | 0 => -1
  | n + 1 => if f (n : Int) = -1 then ty_dn f n else (n : Int)
theorem ty_79 (hr : px_hr r) (d : Nat) (lev hgt : Int → Int) (sh : Int → Bool) (w p a W C : Int) : ∀ (n : Nat) (i l : MI), n ≤ 1440 → ty_CS i l lev hgt sh w p a → i 123 0 = W → i 123 2 = C →
    ∃ i1 l1 : MI, px_X (d + 4 + 1 + 1 + 1) 79 (4, [vR 110, vI ((n : Int) - 1)], []) (px_sh L, i, l, r, t) = some (some (vI (ty_dn (fun m => ty_steps W C a m p (ty_can lev hgt w) sh) n)), (px_sh L, i1, l1, r, t)) ∧ ty_ch [70, 71, 72] i i1 ∧ ty_V i1 ∧ ty_ch [112] l l1
  | 0, i, l, hn, hS, hW, hC => by
    exact ⟨i, l, by rw [b79_4 hr, if_pos (by omega)]; rfl, ty_ch_rf, hS.2.1, ty_ch_rf⟩
  | n + 1, i, l, hn, hS, hW, hC => by
    have e0 : ((n + 1 : Nat) : Int) - 1 = (n : Int) := by omega
    have w1 : px_w32 ((n : Int) + -1) = (n : Int) - 1 := by rw [ty_w (by omega)]; omega
    obtain ⟨i1, l1, e1, c1, v1, cl, -⟩ := q77 (L := L) (r := r) (t := t) hr d i l lev hgt sh w p a (n : Int) (by omega) hS
    rw [hW, hC] at e1
    rw [e0]
    unfold ty_dn
    by_cases h : ty_steps W C a (n : Int) p (ty_can lev hgt w) sh = -1
    · obtain ⟨i2, l2, e2, c2, v2, cl2⟩ := ty_79 hr d lev hgt sh w p a W C n i1 l1 (by omega) (ty_CS_c hS c1 v1 cl) (by rw [c1 123 (by decide), hW]) (by rw [c1 123 (by decide), hC])
      refine ⟨i2, l2, ?_, ty_ch_tr c1 c2 rfl rfl, v2, ty_ch_tr cl cl2 rfl rfl⟩
      rw [b79_4 hr, if_neg (by omega), e1, Option.bind_some, px_psh_some, b79_13 hr, if_pos h, w1, e2, if_pos h]
    · refine ⟨i1, l1, ?_, c1, v1, cl⟩
      rw [b79_4 hr, if_neg (by omega), e1, Option.bind_some, px_psh_some, b79_13 hr, if_neg h, if_neg h]
theorem ty_214 (hr : px_hr r) (d : Nat) (l : MI) (lev hgt : Int → Int) (sh : Int → Bool) (w p a g W C : Int) : ∀ (n : Nat) (i : MI), n ≤ 1440 → ty_RS i lev hgt sh w p a g → i 123 0 = W → i 123 2 = C →
    ∃ i1 : MI, px_X (d + 1 + 1 + 1) 214 (18, [vR 123, vI g, vI ((n : Int) - 1)], []) (px_sh L, i, l, r, t) = some (some (vI (ty_dn (fun m => ty_steps W C a m p (ty_can lev hgt w) sh) n)), (px_sh L, i1, l, r, t)) ∧ ty_ch [147] i i1
  | 0, i, hn, hS, hW, hC => by
    exact ⟨i, by rw [b214_18 hr, if_pos (by omega)]; rfl, ty_ch_rf⟩
  | n + 1, i, hn, hS, hW, hC => by
    have e0 : ((n + 1 : Nat) : Int) - 1 = (n : Int) := by omega
    have w1 : px_w32 ((n : Int) + -1) = (n : Int) - 1 := by rw [ty_w (by omega)]; omega
    obtain ⟨i1, e1, c1, -⟩ := q211 (L := L) (r := r) (t := t) hr d i l lev hgt sh w p a g (n : Int) (by omega) hS
    rw [hW, hC] at e1
    rw [e0]
    unfold ty_dn
    by_cases h : ty_steps W C a (n : Int) p (ty_can lev hgt w) sh = -1
    · obtain ⟨i2, e2, c2⟩ := ty_214 hr d l lev hgt sh w p a g W C n i1 (by omega) (ty_RS_c (c1 123 (by decide)) (c1 124 (by decide)) (c1 146 (by decide)) hS) (by rw [c1 123 (by decide), hW]) (by rw [c1 123 (by decide), hC])
      refine ⟨i2, ?_, ty_ch_tr c1 c2 rfl rfl⟩
      rw [b214_18 hr, if_neg (by omega), e1, Option.bind_some, px_psh_some, b214_28 hr, if_pos h, w1, e2, if_pos h]
    · refine ⟨i1, ?_, c1⟩
      rw [b214_18 hr, if_neg (by omega), e1, Option.bind_some, px_psh_some, b214_28 hr, if_neg h, if_neg h]
/-- what the coupling says of bank and guest -/
theorem ty_bank {n : Nat} {i l : MI} (hc : ty_CR n i l) {g : Int} (hg : 0 ≤ g ∧ g < i 124 4) :
    (i 19 2 = i 123 2 ∧ 4 ≤ i 123 2 ∧ i 123 2 ≤ 36) ∧ (∀ c, 0 ≤ c → c < i 123 2 → i 20 c = i 124 (20 + 2 * c) ∧ 0 ≤ i 124 (20 + 2 * c) ∧ i 124 (20 + 2 * c) ≤ 99) ∧ (i (21 + g.toNat) 6 = i 124 (120 + 14 * g + 6) ∧ 0 ≤ i 124 (120 + 14 * g + 6) ∧ i 124 (120 + 14 * g + 6) ≤ 30) ∧ (i (21 + g.toNat) 5 = i 124 (120 + 14 * g + 5) ∧ 1 ≤ i 124 (120 + 14 * g + 5) ∧ i 124 (120 + 14 * g + 5) ≤ 20) ∧
    ty_set (i 123 2) (l 19 7) (fun c => decide (i 124 (21 + 2 * c) = 1)) ∧ (i 19 8 = i 124 0 ∧ 0 ≤ i 124 0 ∧ i 124 0 < i 123 2) ∧ (g < 10 ∧ i 4 6 = i 124 4) := by
  have hD := hc.1
  have hdim := ty_D_2 hD
  have e19 : i 19 2 = i 123 2 := hD.2.2.2.2.2.1
  obtain ⟨hb, hs, hp, hgg, ho, hh, hl, hnn⟩ := hc.2.1
  have s4 : i 4 6 = i 124 4 ∧ 0 ≤ i 124 4 ∧ i 124 4 ≤ 10 := hs.2.2.2.1
  have h6 := hgg g hg.1 hg.2 6 (by omega) (by omega)
  have h5 := hgg g hg.1 hg.2 5 (by omega) (by omega)
  have h6a : i (21 + g.toNat) 6 = i 124 (120 + 14 * g + 6) := h6.1
  have h5a : i (21 + g.toNat) 5 = i 124 (120 + 14 * g + 5) := h5.1
  have h6b := h6.2
  have h5b := h5.2
  unfold ty_col at h6b h5b
  refine ⟨⟨e19, hdim⟩, fun c c0 c1 => ?_, ⟨h6a, by omega, by omega⟩, ⟨h5a, by omega, by omega⟩, ⟨hb.2.1, fun c c0 c1 => ?_⟩, hb.1, by omega, s4.1⟩
  · have h := hb.2.2 c c0 c1
    have h1 : i 20 c = i 124 (20 + 2 * c) := h.1
    exact ⟨h1, h.2.1, h.2.2.1⟩
  · have h := (hb.2.2 c c0 c1).2.2.2
    have h' : i 124 (21 + 2 * c) = (if ty_bit (l 19 7) c = true then 1 else 0) := h
    cases hbt : ty_bit (l 19 7) c with
    | true => rw [hbt, if_pos rfl] at h'; exact (decide_eq_true h').symm
    | false => rw [hbt, if_neg (by decide)] at h'; exact (decide_eq_false (by omega)).symm
theorem q144' (hr : px_hr r) (d : Nat) (i l : MI) {n : Nat} {i0 l0 : MI} (hc : ty_CR n i0 l0) (h : i 124 = i0 124) (x : Int) : px_C (d + 1) 144 [vR 123, vI x] (px_sh L, i, l, r, t) = some (some (vI (px_bi (0 ≤ x ∧ x < i0 124 4))), (px_sh L, i, l, r, t)) := by
  have s4 : i0 4 6 = i0 124 4 ∧ 0 ≤ i0 124 4 ∧ i0 124 4 ≤ 10 := hc.2.1.2.1.2.2.2.1
  rw [q144 hr _ _ _ _ (by rw [h]; omega), h]
end TYLE
/-- what leaving changes counts for nothing -/
theorem ty_CR_lv {n : Nat} {i i' l l' : MI} (hc : ty_CR n i l) (hi : ty_ch [70, 71, 72, 110, 113, 140, 146, 147, 148, 149] i i') (hl : ty_ch [111, 112, 114, 115, 141, 150, 151] l l') (hV : ty_V i') : ty_CR (n + 1) i' l' := by
  have hY := hc.2.2.2.2
  refine ty_CR_same hc (ty_same_ch hi rfl) (hl 19 (by decide)) (hl 46 (by decide)) hV.2.1 ?_ (fun x x0 x1 => ?_)
  · rw [hi 103 (by decide)]
    have := hY.2.2.2.1
    omega
  · rw [hi 103 (by decide), hi 108 (by decide)]
    exact hY.2.2.2.2 x x0 x1
theorem ok_last (g : Int) : ty_ok ty_CR 18 214 [vI g] := by
  intro L t r hr n d i l hn hc
  have hc' := ty_CR_mono hc
  have e46 : i 4 6 = i 124 4 ∧ 0 ≤ i 124 4 ∧ i 124 4 ≤ 10 := hc.2.1.2.1.2.2.2.1
  show ∃ (v : Int) (i1 l1 i2 l2 : MI), px_C (d + 32 + 4 + 1 + 1 + 1 + 1) 18 [vR 3, vI g] _ = _ ∧ px_C (d + 34 + 4 + 1 + 1) 214 [vR 123, vI g] _ = _ ∧ _
  by_cases hg : 0 ≤ g ∧ g < i 124 4
  · obtain ⟨⟨f1, f2, f3⟩, fh, fw, fp, fs, fa, fg, f46⟩ := ty_bank hc hg
    have hV := ty_V_CR hc
    have hgs := px_gs_mk21 (x := g) (by omega)
    obtain ⟨l1, e1, c1, h1⟩ := q75 (L := L) (r := r) (t := t) hr (d + 32 + 4 + 1) i l (fun c => i 124 (20 + 2 * c)) (i 124 (120 + 14 * g + 6)) (i 123 2) hgs f1 (by omega) (fun c c0 c1 => fh c c0 c1) fw
    obtain ⟨j, hj⟩ : ∃ j : MI, j = px_up i 110 7 (i (21 + g.toNat) 5) := ⟨_, rfl⟩
    have cj : ty_ch [110] i j := by
      rw [hj]
      exact ty_ch_up (by decide)
    have j123 := cj 123 (by decide)
    have hCS : ty_CS j l1 (ty_lev i) (fun c => i 124 (20 + 2 * c)) (fun c => decide (i 124 (21 + 2 * c) = 1)) (i 124 (120 + 14 * g + 6)) (i 124 (120 + 14 * g + 5)) (i 124 0) := by
      refine ⟨?_, ty_V_ch hV cj rfl, fun x _ _ => ty_lev_ch hV.1 cj rfl, ?_, ?_, ?_, fun v v0 v1 => ?_, fun c c0 c1 => ?_⟩
      · have j19 := cj 19 (by decide)
        have l19 := c1 19 (by decide)
        exact ty_D_c (i := i) (l := l) (by rw [j123]) (by rw [j123]) (by rw [j123]) (by rw [j19]) (by rw [j19]) (by rw [j19]) (by rw [l19]) (by rw [l19]) (by rw [l19]) (ty_gs_fr (fun k k0 k1 => cj k (fun h => by
          simp only [List.mem_cons, List.not_mem_nil, or_false] at h
          omega))) hc.1
      · rw [hj, ty_up_eq]
        exact fp
      · rw [cj 19 (by decide), j123]
        exact fa
      · rw [c1 19 (by decide), j123]
        exact fs
      · rw [j123]
        exact h1 v v0 v1
      · rw [j123] at c1
        have := fh c c0 c1
        show i 124 (20 + 2 * c) + i 124 (120 + 14 * g + 6) < 130
        omega
    obtain ⟨i2, l2, e2, c2, v2, cl2⟩ := ty_79 (L := L) (r := r) (t := t) hr (d + 32) _ _ _ _ _ _ (i 123 0) (i 123 2) 1440 j l1 (by omega) hCS (by rw [j123]) (by rw [j123])
    have ci2 : ty_ch [70, 71, 72, 110] i i2 := ty_ch_tr cj c2 rfl rfl
    obtain ⟨i3, l3, e3, c3, cl3, v3, h3⟩ := q207 (L := L) (r := r) (t := t) hr (d + 34) i2 l2 v2
    have ci3 : ty_ch [70, 71, 72, 110, 140, 146] i i3 := ty_ch_tr ci2 c3 rfl rfl
    have k123 := ci3 123 (by decide)
    have k124 := ci3 124 (by decide)
    have hD := hc.1
    have hRS : ty_RS i3 (ty_lev i) (fun c => i 124 (20 + 2 * c)) (fun c => decide (i 124 (21 + 2 * c) = 1)) (i 124 (120 + 14 * g + 6)) (i 124 (120 + 14 * g + 5)) (i 124 0) g := by
      unfold ty_RS
      rw [k123, k124]
      refine ⟨hD.1, hD.2.1, hD.2.2.1, ⟨f2, f3⟩, ⟨hg.1, fg⟩, fun x x0 x1 => ?_, fun c c0 c1 => ⟨rfl, (fh c c0 c1).2⟩, ⟨rfl, fw.2⟩, fun c _ _ => rfl, ⟨rfl, fp.2⟩, ⟨rfl, fa.2⟩⟩
      rw [h3 x x0 x1, ty_lev_ch hV.1 ci2 rfl]
    obtain ⟨i4, e4, c4⟩ := ty_214 (L := L) (r := r) (t := t) hr (d + 34 + 3) l3 _ _ _ _ _ _ g (i 123 0) (i 123 2) 1440 i3 (by omega) hRS (by rw [k123]) (by rw [k123])
    have ci4 : ty_ch [70, 71, 72, 110, 140, 146, 147] i i4 := ty_ch_tr ci3 c4 rfl rfl
    have cl4 : ty_ch [111, 112, 141] l l3 := ty_ch_tr (ty_ch_tr c1 cl2 (S'' := [111, 112]) rfl rfl) cl3 rfl rfl
    refine ⟨ty_dn (fun m => ty_steps (i 123 0) (i 123 2) (i 124 0) m (i 124 (120 + 14 * g + 5)) (ty_can (ty_lev i) (fun c => i 124 (20 + 2 * c)) (i 124 (120 + 14 * g + 6))) (fun c => decide (i 124 (21 + 2 * c) = 1))) 1440, i2, l2, i4, l3, ?_, ?_, ty_CR_lv hc (ty_ch_w ci4 rfl) (ty_ch_w cl4 rfl) (ty_V_ch v3 c4 rfl), ci2 0 (by decide), ci4 0 (by decide)⟩
    · rw [e18, b18_0 hr, q52R hr _ _ _ _ (by omega), Option.bind_some, px_psh_some, b18_8_g hr _ _ _ _ hgs, e1, Option.bind_some, px_psh_none, b18_23 hr _ _ _ _ (px_nl_R _), e79, b79_0 hr, ← hj]
      rw [show (1439 : Int) = ((1440 : Nat) : Int) - 1 from rfl, e2, Option.bind_some, px_psh_some, b18_30 hr _ _ _ _ (px_nl_R _)]
    · rw [e214, b214_0 hr, q144' hr _ _ _ hc (ci2 124 (by decide)), Option.bind_some, px_psh_some, b214_5 hr, px_bi_T hg, if_neg (by omega), e3, Option.bind_some, px_psh_none, b214_14 hr]
      rw [show (1439 : Int) = ((1440 : Nat) : Int) - 1 from rfl, e4]
  · refine ⟨-1, i, l, i, l, ?_, ?_, hc', rfl, rfl⟩
    · rw [e18, b18_0 hr, q52N hr _ _ _ _ (by omega), Option.bind_some, px_psh_some, b18_8_N hr]
    · rw [e214, b214_0 hr, q144' hr _ _ _ hc rfl, Option.bind_some, px_psh_some, b214_5 hr, px_bi_F hg, if_pos rfl]
