/-! A pilot: the class's thousandthsSafe, whole (80). -/
theorem tq_S_le {f g : Int → Int} (h : ∀ x, f x ≤ g x) : ∀ n : Nat, tq_S f n ≤ tq_S g n
  | 0 => Int.le_refl 0
  | n + 1 => by
    have := tq_S_le h n
    have h2 := h n
    show tq_S f n + f n ≤ tq_S g n + g n
    omega
/-- what is in shore -/
def tq_g (sh : Int → Bool) (p : Int → Int) (x : Int) : Int := if sh x = true then p x else 0
theorem tq_g_b {sh : Int → Bool} {p : Int → Int} (hp : ∀ x, 0 ≤ p x) {B : Int} {n : Nat} (hB : tq_S p n ≤ B) {c : Nat} (hc : c ≤ n) : 0 ≤ tq_S (tq_g sh p) c ∧ tq_S (tq_g sh p) c ≤ B := by
  have h0 : ∀ x, 0 ≤ tq_g sh p x := fun x => by
    have := hp x
    unfold tq_g
    split <;> omega
  have h1 : ∀ x, tq_g sh p x ≤ p x := fun x => by
    have := hp x
    unfold tq_g
    split <;> omega
  have h2 := tq_S_le h1 c
  have h3 := tq_S_m hp (n := c) (n - c)
  rw [show c + (n - c) = n by omega] at h3
  exact ⟨tq_S_0 h0 c, by omega⟩
/-- thousandths -/
def tq_V (sh : Int → Bool) (p : Int → Int) (C : Int) (n : Nat) : Int := px_w32 (px_w64 (Int.tdiv (px_w64 (tq_S (tq_g sh p) C.toNat * 1000)) ((12 ^ n : Nat) : Int)))
theorem tq_wt {k : Nat} {m pc : Int} (hk : k ≤ 9) (hm : 0 ≤ m ∧ m < 1440) (hpc : 1 ≤ pc ∧ pc ≤ 20) : px_w32 (m + px_w32 (((k : Int) + 1) * pc)) = m + ((k + 1 : Nat) : Int) * pc := by
  have hkp := ty_kp (k := (k : Int) + 1) (p := pc) (by omega) hpc
  rw [ty_w (x := ((k : Int) + 1) * pc) (by omega), ty_w (by omega)]
  rfl
section TQC
variable {L t : Nat} {r : MR}
theorem tq_80_k (hr : px_hr r) (d : Nat) (lev hgt : Int → Int) (sh : Int → Bool) (w pc a m dr x4 W C : Int) (A : Int → Int) (n0 : Nat) (hm : 0 ≤ m ∧ m < 1440) (hd : 0 ≤ dr ∧ dr ≤ 3) (hn10 : n0 ≤ 10) (ha : ∀ c, 0 ≤ c → c < C → sh c = false → tq_aim W C A c ≠ -1) : ∀ (N k : Nat) (i l : MI) (v8 v10 : PV), px_nl v10 → k + N = n0 → ty_CS i l lev hgt sh w pc a → i 123 0 = W → i 123 2 = C → (∀ e, 0 ≤ e → e < C → i 113 e = A e) → (∀ x, 0 ≤ x → x < C → l 114 x = tq_P W C sh A dr a m pc (ty_can lev hgt w) k x) →
    ∃ (i1 l1 : MI) (w10 : PV), px_nl w10 ∧ px_X (d + 4 + 1 + 1) 80 (64, [vR 110, vI m, vI dr, vI (n0 : Int), vI x4, vL ((12 ^ k : Nat) : Int), vJ, vI ((k : Int) + 1), v8, vJ, v10], []) (px_sh L, i, l, r, t) = px_X (d + 4 + 1 + 1) 80 (171, [vR 110, vI m, vI dr, vI (n0 : Int), vI x4, vL ((12 ^ n0 : Nat) : Int), vJ, vL 0, vJ, vI 0, w10], []) (px_sh L, i1, l1, r, t) ∧ ty_ch [70, 71, 72] i i1 ∧ ty_ch [114, 115] l l1 ∧ ty_V i1 ∧ ∀ x, 0 ≤ x → x < C → l1 114 x = tq_P W C sh A dr a m pc (ty_can lev hgt w) n0 x
  | 0, k, i, l, v8, v10, h10, hk, hCS, h0, h2, hA, hp => by
    have ek : k = n0 := by omega
    refine ⟨i, l, v10, h10, ?_, ty_ch_rf, ty_ch_rf, hCS.2.1, by rw [← ek]; exact hp⟩
    rw [b80_64x hr, if_pos (by omega), ek]
  | N + 1, k, i, l, v8, v10, h10, hk, hCS, h0, h2, hA, hp => by
    have hD := hCS.1
    have hdim := ty_D_2 hD
    have hpc := hCS.2.2.2.1
    have hkp := ty_kp (k := (k : Int) + 1) (p := pc) (by omega) hpc.2
    have hW2 : 2 ≤ W := by
      rw [← h0]
      exact hD.1.1
    obtain ⟨la, hla⟩ : ∃ la : MI, la = px_un l 115 (fun j => if 0 ≤ j ∧ j < ((36 : Nat) : Int) then 0 else l 115 j) := ⟨_, rfl⟩
    have ca : ty_ch [115] l la := by
      rw [hla]
      exact ty_ch_un (by decide)
    have hCSa : ty_CS i la lev hgt sh w pc a := tq_CS_c hCS (ty_ch_rf) hCS.2.1 (ty_ch_w ca rfl)
    have ekp : ((k + 1 : Nat) : Int) * pc = ((k : Int) + 1) * pc := rfl
    obtain ⟨ib, F, rb, cb, Vb, hF⟩ := q76 (L := L) (r := r) (t := t) hr d i la lev hgt sh w pc a (m + ((k + 1 : Nat) : Int) * pc) hCSa (by omega)
    have hCSb : ty_CS ib la lev hgt sh w pc a := tq_CS_c hCSa (ty_ch_w cb rfl) Vb ty_ch_rf
    have b0 : ib 123 0 = W := by rw [cb 123 (by decide)]; exact h0
    have b2 : ib 123 2 = C := by rw [cb 123 (by decide)]; exact h2
    have hC0 : 0 ≤ C := by omega
    obtain ⟨hP1, hP2⟩ := tq_P_b (sh := sh) (A := A) (dr := dr) (a := a) (m := m) (pc := pc) (can := ty_can lev hgt w) hW2 hC0 hd ha k
    obtain ⟨lc, rc, cc, pcx⟩ := tq_80_c (L := L) (r := r) (t := t) hr (d + 2) ib A (fun c => ty_can lev hgt w c (m + ((k + 1 : Nat) : Int) * pc)) sh m dr (n0 : Int) x4 ((12 ^ k : Nat) : Int) ((k : Int) + 1) F (tq_P W C sh A dr a m pc (ty_can lev hgt w) k) hd (by rw [b2, ← h2]; exact hF) (by rw [b2, cb 113 (by decide)]; exact hA) (by rw [b0, b2]; exact ha) hP1 (fun x x0 x1 => by
      rw [b0, b2]
      rw [b2] at x1
      have h := tq_P_x (sh := sh) (A := A) (dr := dr) (a := a) (m := m) (pc := pc) (can := ty_can lev hgt w) hW2 hC0 hd ha (k := k + 1) (by omega) ⟨x0, x1⟩
      have h' : tq_G (tq_K W C sh A dr (fun c => ty_can lev hgt w c (m + ((k + 1 : Nat) : Int) * pc)) (tq_P W C sh A dr a m pc (ty_can lev hgt w) k)) C.toNat x ≤ 61917364224 := h.2
      omega) (ib 123 2).toNat 0 la hCSb.1 hCSb.2.2.2.2.2.1 (fun x x0 x1 => by
      rw [ca 114 (by decide)]
      rw [b2] at x1
      exact hp x x0 x1) (by rw [b2]; omega) (fun x x0 x1 => by
      rw [b2] at x1
      rw [hla, ty_un_eq, if_pos (by omega)]
      rfl)
    rw [b0, b2] at pcx
    obtain ⟨ld, hld⟩ : ∃ ld : MI, ld = px_un lc 114 (fun j => if 0 ≤ j ∧ j < 0 + 36 then lc 115 (0 + (j - 0)) else lc 114 j) := ⟨_, rfl⟩
    have cd : ty_ch [114] lc ld := by
      rw [hld]
      exact ty_ch_un (by decide)
    have c01 : ty_ch [114, 115] l ld := ty_ch_tr (ty_ch_tr ca cc (S'' := [115]) rfl rfl) cd rfl rfl
    have pd : ∀ x, 0 ≤ x → x < C → ld 114 x = tq_P W C sh A dr a m pc (ty_can lev hgt w) (k + 1) x := fun x x0 x1 => by
      have e : ld 114 x = lc 115 x := by
        rw [hld, ty_un_eq, if_pos (by omega), show 0 + (x - 0) = x by omega]
      rw [e, pcx x x0 x1]
      rfl
    obtain ⟨i1, l1, w10, n1, r1, c1, cl1, V1, p1⟩ := tq_80_k hr d lev hgt sh w pc a m dr x4 W C A n0 hm hd hn10 ha N (k + 1) ib ld (vL F) (vI (ib 123 2)) (px_nl_I _) (by omega) (tq_CS_c hCS (ty_ch_w cb rfl) Vb (ty_ch_w c01 rfl)) b0 b2 (by rw [cb 113 (by decide)]; exact hA) pd
    have rc' : px_X (d + 4 + 1 + 1) 80 (96, [vR 110, vI m, vI dr, vI (n0 : Int), vI x4, vL ((12 ^ k : Nat) : Int), vJ, vI ((k : Int) + 1), vL F, vJ, vI 0], []) (px_sh L, ib, la, r, t) = px_X (d + 4 + 1 + 1) 80 (133, [vR 110, vI m, vI dr, vI (n0 : Int), vI x4, vL ((12 ^ k : Nat) : Int), vJ, vI ((k : Int) + 1), vL F, vJ, vI (ib 123 2)], []) (px_sh L, ib, lc, r, t) := rc
    refine ⟨i1, l1, w10, n1, ?_, ty_ch_tr cb c1 rfl rfl, ty_ch_tr c01 cl1 rfl rfl, V1, p1⟩
    rw [b80_64x hr, if_neg (by omega), q242 hr _ _ _ (px_s115 L) (Nat.le_of_ble_eq_true rfl) (by omega), Option.bind_some, px_psh_none, ← hla, b80_78x hr, hpc.1, tq_wt (by omega) hm hpc.2, rb, Option.bind_some, px_psh_some, b80_91x hr, rc', b80_133 hr, ← hld, tq_w12 (k := k) (by omega), tg_wc2 (c := k) (by omega), r1]
theorem tq_80_s (hr : px_hr r) (d : Nat) (i l : MI) (sh : Int → Bool) (x1 x2 x3 x4 x5 C : Int) (p : Int → Int) (hC : i 19 2 = C) (hC36 : C ≤ 36) (hs : ty_set C (l 19 7) sh) (hp : ∀ x, 0 ≤ x → x < C → l 114 x = p x) {v10 : PV} (h10 : px_nl v10) (hB : ∀ c : Nat, (c : Int) ≤ C → 0 ≤ tq_S (tq_g sh p) c ∧ tq_S (tq_g sh p) c ≤ 61917364224) : ∀ (n c : Nat), (c : Int) + n = C →
    px_X (d + 1 + 1) 80 (171, [vR 110, vI x1, vI x2, vI x3, vI x4, vL x5, vJ, vL (tq_S (tq_g sh p) c), vJ, vI (c : Int), v10], []) (px_sh L, i, l, r, t) = px_X (d + 1 + 1) 80 (227, [vR 110, vI x1, vI x2, vI x3, vI x4, vL x5, vJ, vL (tq_S (tq_g sh p) C.toNat), vJ, vI C, v10], []) (px_sh L, i, l, r, t)
  | 0, c, hn => by
    rw [b80_171 hr _ _ _ _ _ _ _ _ _ _ h10, if_pos (by omega), show (c : Int) = C by omega, show c = C.toNat by omega]
  | n + 1, c, hn => by
    have hb1 := hB (c + 1) (by omega)
    have e1 : tq_S (tq_g sh p) (c + 1) = tq_S (tq_g sh p) c + tq_g sh p c := rfl
    rw [b80_171 hr _ _ _ _ _ _ _ _ _ _ h10, if_neg (by omega), if_neg (by omega), q39 hr d i l C sh hC hC36 hs c (by omega), Option.bind_some, px_psh_some, b80_204 hr _ _ _ _ _ _ _ _ _ _ h10 _ _ (fun _ => by omega), tg_wc (c := c) (by omega), ← tq_80_s hr d i l sh x1 x2 x3 x4 x5 C p hC hC36 hs hp h10 hB n (c + 1) (by omega), hp c (by omega) (by omega)]
    have eg : tq_g sh p c = if sh c = true then p c else 0 := rfl
    by_cases h : sh c = true
    · rw [if_pos h] at eg
      rw [if_neg (by rw [h]; decide), ty_w6 (by omega), e1, eg]
    · have hf : sh c = false := by
        cases hb : sh c with
        | false => rfl
        | true => exact absurd hb h
      rw [if_neg h] at eg
      rw [if_pos (by rw [hf]; rfl), ty_w6 (by omega), e1, eg]
/-- thousandthsSafe -/
theorem tq_80 (hr : px_hr r) (d : Nat) (i l : MI) (lev hgt : Int → Int) (sh : Int → Bool) (w pc a m dr : Int) (n0 : Nat) (hm : 0 ≤ m ∧ m < 1440) (hd : 0 ≤ dr ∧ dr ≤ 3) (hn10 : n0 ≤ 10) (hCS : ty_CS i l lev hgt sh w pc a) (hsh : ∃ s, (0 ≤ s ∧ s < i 123 2) ∧ sh s = true) :
    ∃ (A : Int → Int) (i1 l1 : MI), (∀ c, 0 ≤ c → c < i 123 2 → tq_far (i 123 0) (i 123 2) sh (A c) c) ∧ px_C (d + 4 + 1 + 1) 80 [vR 110, vI m, vI dr, vI (n0 : Int)] (px_sh L, i, l, r, t) = some (some (vI (tq_V sh (tq_P (i 123 0) (i 123 2) sh A dr a m pc (ty_can lev hgt w) n0) (i 123 2) n0)), (px_sh L, i1, l1, r, t)) ∧ ty_ch [70, 71, 72, 113] i i1 ∧ ty_ch [114, 115] l l1 ∧ ty_V i1 := by
  have hD := hCS.1
  have hdim := ty_D_2 hD
  have hs := hCS.2.2.2.2.2.1
  have hal := hCS.2.2.2.2.1
  obtain ⟨s, s0, s1⟩ := hsh
  have hall : ∀ c, 0 ≤ c → c < i 123 2 → tq_R (i 123 0) (i 123 2) sh (i 123 2).toNat c = true := fun c c0 c1 => by
    have h := tq_con (sh := sh) (s := s) (c := c) hD.1 hD.2.1 (by rw [← hD.2.2.1]; exact s0) s1 (by rw [← hD.2.2.1]; exact ⟨c0, c1⟩)
    rw [← hD.2.2.1] at h
    exact h
  obtain ⟨ia, ra, ca, pa⟩ := tq_81 (L := L) (r := r) (t := t) hr (d + 4) i l sh hD hs hall
  have k123 := ca 123 (by decide)
  have haim : ∀ c, 0 ≤ c → c < i 123 2 → sh c = false → tq_aim (i 123 0) (i 123 2) (ia 113) c ≠ -1 := fun c c0 c1 hc => by
    have h := tq_aim_y (W := i 123 0) (H := i 123 1) (sh := sh) (A := ia 113) (c := c) hD.1 (by rw [← hD.2.2.1]; exact pa) (by rw [← hD.2.2.1]; exact ⟨c0, c1⟩) hc
    rw [← hD.2.2.1] at h
    exact h
  obtain ⟨lb, hlb⟩ : ∃ lb : MI, lb = px_un l 114 (fun j => if 0 ≤ j ∧ j < ((36 : Nat) : Int) then 0 else l 114 j) := ⟨_, rfl⟩
  obtain ⟨lc, hlc⟩ : ∃ lc : MI, lc = px_up lb 114 a 1 := ⟨_, rfl⟩
  have cb : ty_ch [114] l lc := by
    rw [hlc, hlb]
    exact ty_ch_tr (ty_ch_un (S := [114]) (by decide)) (ty_ch_up (S := [114]) (by decide)) rfl rfl
  have hCSc : ty_CS ia lc lev hgt sh w pc a := tq_CS_c hCS (ty_ch_w ca rfl) (ty_V_ch hCS.2.1 ca rfl) (ty_ch_w cb rfl)
  have hp0 : ∀ x, 0 ≤ x → x < i 123 2 → lc 114 x = tq_P (i 123 0) (i 123 2) sh (ia 113) dr a m pc (ty_can lev hgt w) 0 x := fun x x0 x1 => by
    show _ = if x = a then (1 : Int) else 0
    by_cases e : x = a
    · rw [if_pos e, hlc, e, ty_up_eq]
    · rw [if_neg e, hlc, ty_up_j e, hlb, ty_un_eq, if_pos (by omega)]
  obtain ⟨id, ld, w10, n10, rd, cd, cld, Vd, pd⟩ := tq_80_k (L := L) (r := r) (t := t) hr d lev hgt sh w pc a m dr a (i 123 0) (i 123 2) (ia 113) n0 hm hd hn10 haim n0 0 ia lc vJ vJ px_nl_J (by omega) hCSc (by rw [k123]) (by rw [k123]) (fun e _ _ => rfl) hp0
  obtain ⟨hP1, hP2⟩ := tq_P_b (sh := sh) (A := ia 113) (dr := dr) (a := a) (m := m) (pc := pc) (can := ty_can lev hgt w) hD.1.1 (by omega) hd haim n0
  have h12 := tq_12 hn10
  have rs := tq_80_s (L := L) (r := r) (t := t) hr (d + 4) id ld sh m dr (n0 : Int) a ((12 ^ n0 : Nat) : Int) (i 123 2) (tq_P (i 123 0) (i 123 2) sh (ia 113) dr a m pc (ty_can lev hgt w) n0) (by rw [cd 19 (by decide), ca 19 (by decide)]; exact hD.2.2.2.2.2.1) hdim.2 (by rw [cld 19 (by decide), cb 19 (by decide)]; exact hs) pd n10 (fun c hc => by
    have h := tq_g_b (sh := sh) hP1 (B := ((12 ^ n0 : Nat) : Int)) hP2 (c := c) (by omega)
    exact ⟨h.1, by omega⟩) (i 123 2).toNat 0 (by omega)
  have hne : ¬ l 19 7 = 0 := fun h => by
    rw [(ty_set_ne hs).mp h s s0.1 s0.2] at s1
    exact absurd s1 (by decide)
  have rd' : px_X (d + 4 + 1 + 1) 80 (64, [vR 110, vI m, vI dr, vI (n0 : Int), vI a, vL 1, vJ, vI 1, vJ, vJ, vJ], []) (px_sh L, ia, lc, r, t) = _ := rd
  have rs' : px_X (d + 4 + 1 + 1) 80 (171, [vR 110, vI m, vI dr, vI (n0 : Int), vI a, vL ((12 ^ n0 : Nat) : Int), vJ, vL 0, vJ, vI 0, w10], []) (px_sh L, id, ld, r, t) = _ := rs
  refine ⟨ia 113, id, ld, pa, ?_, ty_ch_tr ca cd rfl rfl, ty_ch_tr cb cld rfl rfl, Vd⟩
  rw [e80, b80_0 hr, if_neg (fun h => hne (ty_cmp0.mp h)), hal.1, if_neg (by omega), if_pos (by omega), ra, Option.bind_some, px_psh_none, b80_42 hr, q242 hr _ _ _ (px_s114 L) (Nat.le_of_ble_eq_true rfl) (by omega), Option.bind_some, px_psh_none, ← hlb, b80_50 hr _ _ _ _ _ _ _ (by omega), ← hlc, rd', rs', b80_227 hr _ _ _ _ _ _ _ _ _ _ n10 (fun _ => by omega), if_neg (by rw [cmp_le]; omega)]
  rfl
end TQC
