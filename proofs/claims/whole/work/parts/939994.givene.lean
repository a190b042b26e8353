/-! Perches given: deal says the class's places; places as digits of a number. -/
theorem tg_pl_b {i : MI} (hQ : ty_HG i) (lv g X : Int) (room : Int → Int) (D wet : Int) : 0 ≤ tg_pl i lv g X room D wet ∧ tg_pl i lv g X room D wet < 9 := by
  have b3 := hQ.2.1
  rcases tg_pf_b (room := room) (dry := tg_dr i lv) (own := tg_w i g) (D := D) (wet := wet) (Lw := tg_L i X) (i 124 3).toNat 0 (Int.le_refl 0) with e | ⟨a, b, -⟩
  · have e' : tg_pl i lv g X room D wet = 8 := e
    omega
  · have e' : tg_pf room (tg_dr i lv) (tg_w i g) (tg_L i X) D wet (i 124 3).toNat 0 = tg_pl i lv g X room D wet := rfl
    omega
theorem tg_gs_b {i : MI} (hQ : ty_HG i) {lv : Int} {who : Int → Int} : ∀ (n : Nat) (k X D : Int) (room : Int → Int) (x : Int), 0 ≤ tg_gs i lv who n k X room D x ∧ tg_gs i lv who n k X room D x < 9
  | 0, _, _, _, _, _ => ⟨by show (0 : Int) ≤ 8; omega, by show (8 : Int) < 9; omega⟩
  | n + 1, k, X, D, room, x => by
    unfold tg_gs
    by_cases e : x = k
    · rw [if_pos e]
      exact tg_pl_b hQ _ _ _ _ _ _
    · rw [if_neg e]
      exact tg_gs_b hQ n (k + 1) _ _ _ x
theorem tg_dl_gs {i : MI} (hQ : ty_HG i) {who : Int → Int} {lv a : Int} (hlv : 0 ≤ lv) : ∀ (N n : Nat) (g k X D : Int) (room : Int → Int), 0 ≤ g → g + N = i 124 4 → (0 ≤ X ∧ X < 1024) → tg_set X who n k → (∀ x, k ≤ x → x < k + n → g ≤ who x ∧ who x < i 124 4) → (∀ x y, k ≤ x → x < y → y < k + n → who x < who y) → (∀ x, i 124 3 ≤ x → x < 8 → room x ≤ 0) → (∀ x, 0 ≤ x → x < 8 → 0 ≤ room x) → tg_rel i lv n room D → k ≤ a → a < k + n →
    tg_dl i lv (who a) N g X room D (tg_L i X D) = tg_gs i lv who n k X room D a
  | 0, n, g, k, X, D, room, hg, hN, hX, hset, hw, hi, hz, hr, hrel, ha, ha2 => by
    have := hw a ha ha2
    omega
  | N + 1, n, g, k, X, D, room, hg, hN, hX, hset, hw, hi, hz, hr, hrel, ha, ha2 => by
    have b4 := hQ.1
    have edl : tg_dl i lv (who a) (N + 1) g X room D (tg_L i X D) = if ty_bit X g = true then
      (if g = who a then tg_pl i lv g (px_and X (px_xor (px_shl 1 g) (-1))) room D (tg_L i X D)
       else tg_dl i lv (who a) N (g + 1) (px_and X (px_xor (px_shl 1 g) (-1))) (fun y => if y = tg_pl i lv g (px_and X (px_xor (px_shl 1 g) (-1))) room D (tg_L i X D) then room y - 1 else room y)
         (if tg_dp i lv (tg_pl i lv g (px_and X (px_xor (px_shl 1 g) (-1))) room D (tg_L i X D)) = true then D - 1 else D)
         (if tg_dp i lv (tg_pl i lv g (px_and X (px_xor (px_shl 1 g) (-1))) room D (tg_L i X D)) = true then tg_L i X D else tg_L i X D - tg_w i g))
      else tg_dl i lv (who a) N (g + 1) X room D (tg_L i X D) := rfl
    rw [edl]
    by_cases hb : ty_bit X g = true
    · rw [if_pos hb]
      obtain ⟨x, x0, x1, x2⟩ := (hset g hg (by omega)).mp hb
      have ek : who k = g := by
        by_cases e : x = k
        · rw [← e]
          exact x2
        · have h1 := hi k x (Int.le_refl k) (by omega) x1
          have h2 := (hw k (Int.le_refl k) (by omega)).1
          omega
      obtain ⟨m, rfl⟩ : ∃ m : Nat, n = m + 1 := ⟨n - 1, by omega⟩
      have hi' : ∀ x y, k ≤ x → x < y → y < k + ((m + 1 : Nat) : Int) → who x ≠ who y := fun x y x0 xy y1 => by
        have := hi x y x0 xy y1
        omega
      have hwk : 0 ≤ who k ∧ who k < 10 := by omega
      obtain ⟨s1, s2⟩ := tg_step hQ hX hset (fun x x0 x1 => ⟨by have := (hw x x0 x1).1; omega, (hw x x0 x1).2⟩) hi' hz hr hrel hlv
      have hset' := tg_set_s hX hset hwk (fun x x0 x1 e => hi' k x (Int.le_refl k) x0 x1 e.symm)
      have hrm := (th_rm (X := X) (k := who k) hX hwk).1
      rw [ek] at s1 s2 hset' hrm
      have egs : tg_gs i lv who (m + 1) k X room D a = if a = k then tg_pl i lv (who k) (px_and X (px_xor (px_shl 1 (who k)) (-1))) room D (tg_L i X D)
        else tg_gs i lv who m (k + 1) (px_and X (px_xor (px_shl 1 (who k)) (-1))) (fun y => if y = tg_pl i lv (who k) (px_and X (px_xor (px_shl 1 (who k)) (-1))) room D (tg_L i X D) then room y - 1 else room y)
        (if tg_dp i lv (tg_pl i lv (who k) (px_and X (px_xor (px_shl 1 (who k)) (-1))) room D (tg_L i X D)) = true then D - 1 else D) a := rfl
      rw [egs, ek]
      have hplb := tg_pl_b hQ lv g (px_and X (px_xor (px_shl 1 g) (-1))) room D (tg_L i X D)
      obtain ⟨X', hX'⟩ : ∃ X', X' = px_and X (px_xor (px_shl 1 g) (-1)) := ⟨_, rfl⟩
      rw [← hX'] at s1 s2 hset' hrm hplb ⊢
      obtain ⟨pl, hpl⟩ : ∃ pl, pl = tg_pl i lv g X' room D (tg_L i X D) := ⟨_, rfl⟩
      rw [← hpl] at s1 s2 hplb ⊢
      by_cases e : a = k
      · rw [if_pos e, if_pos (by rw [e, ek])]
      · have hlt := hi k a (Int.le_refl k) (by omega) ha2
        rw [if_neg e, if_neg (by omega)]
        have ew : (if tg_dp i lv pl = true then tg_L i X D else tg_L i X D - tg_w i g) = tg_L i X' (if tg_dp i lv pl = true then D - 1 else D) := by
          by_cases cd : tg_dp i lv pl = true
          · rw [if_pos cd, if_pos cd]
            rw [if_pos cd] at s2
            omega
          · rw [if_neg cd, if_neg cd]
            rw [if_neg cd] at s2
            omega
        rw [ew]
        exact tg_dl_gs hQ hlv N m (g + 1) (k + 1) X' _ _ (by omega) (by omega) hrm hset' (fun x x0 x1 => by
          have h1 := hi k x (Int.le_refl k) (by omega) (by omega)
          exact ⟨by omega, (hw x (by omega) (by omega)).2⟩) (fun x y x0 xy y1 => hi x y (by omega) xy (by omega)) (fun x x0 x1 => by
          have := hz x x0 x1
          show (if x = pl then room x - 1 else room x) ≤ 0
          split <;> omega) (fun x x0 x1 => by
          have := hr x x0 x1
          show 0 ≤ if x = pl then room x - 1 else room x
          by_cases ex : x = pl
          · rw [if_pos ex]
            rcases s1 with h | h
            · omega
            · rw [← ex] at h
              omega
          · rw [if_neg ex]
            exact this) (tg_rel_s hrel hplb) (by omega) (by omega)
    · rw [if_neg hb]
      exact tg_dl_gs hQ hlv N n (g + 1) k X D room (by omega) (by omega) hX hset (fun x x0 x1 => by
        have h := hw x x0 x1
        have : who x ≠ g := fun e => hb ((hset g hg (by omega)).mpr ⟨x, x0, x1, e⟩)
        exact ⟨by omega, h.2⟩) hi hz hr hrel ha ha2
/-- the digits of q to base 9, n of them -/
def tg_dg : Nat → Nat → Int → Int
  | 0, _ => fun _ => 0
  | n + 1, q => fun x => if x = (n : Int) then ((q % 9 : Nat) : Int) else tg_dg n (q / 9) x
theorem tg_dg_b : ∀ (n q : Nat) (x : Int), 0 ≤ tg_dg n q x ∧ tg_dg n q x < 9
  | 0, _, _ => ⟨by show (0 : Int) ≤ 0; omega, by show (0 : Int) < 9; omega⟩
  | n + 1, q, x => by
    unfold tg_dg
    by_cases e : x = (n : Int)
    · rw [if_pos e]
      omega
    · rw [if_neg e]
      exact tg_dg_b n (q / 9) x
theorem tg_dg_lt : ∀ (n q q' : Nat), q < q' → q' < 9 ^ n → ∃ a : Int, (0 ≤ a ∧ a < n) ∧ (∀ x, 0 ≤ x → x < a → tg_dg n q x = tg_dg n q' x) ∧ tg_dg n q a < tg_dg n q' a
  | 0, q, q', h, h' => by
    rw [Nat.pow_zero] at h'
    omega
  | n + 1, q, q', h, h' => by
    rw [Nat.pow_succ] at h'
    by_cases c : q / 9 < q' / 9
    · obtain ⟨a, a0, a1, a2⟩ := tg_dg_lt n (q / 9) (q' / 9) c (by omega)
      have e : ∀ p x, x ≠ (n : Int) → tg_dg (n + 1) p x = tg_dg n (p / 9) x := fun p x hx => if_neg hx
      refine ⟨a, ⟨a0.1, by omega⟩, fun x x0 x1 => ?_, ?_⟩
      · rw [e q x (by omega), e q' x (by omega)]
        exact a1 x x0 x1
      · rw [e q a (by omega), e q' a (by omega)]
        exact a2
    · have e : q / 9 = q' / 9 := by omega
      refine ⟨n, ⟨by omega, by omega⟩, fun x x0 x1 => ?_, ?_⟩
      · show (if x = (n : Int) then _ else tg_dg n (q / 9) x) = (if x = (n : Int) then _ else tg_dg n (q' / 9) x)
        rw [if_neg (by omega), if_neg (by omega), e]
      · show (if (n : Int) = (n : Int) then ((q % 9 : Nat) : Int) else _) < (if (n : Int) = (n : Int) then ((q' % 9 : Nat) : Int) else _)
        rw [if_pos rfl, if_pos rfl]
        omega
theorem tg_dg_x : ∀ (n : Nat) (pl : Int → Int), (∀ x : Int, 0 ≤ x → x < n → 0 ≤ pl x ∧ pl x < 9) → ∃ q : Nat, q < 9 ^ n ∧ ∀ x : Int, 0 ≤ x → x < n → tg_dg n q x = pl x
  | 0, pl, _ => ⟨0, by decide, fun x x0 x1 => by omega⟩
  | n + 1, pl, h => by
    obtain ⟨q, q0, q1⟩ := tg_dg_x n pl (fun x x0 x1 => h x x0 (by omega))
    have hn := h n (by omega) (by omega)
    refine ⟨9 * q + (pl n).toNat, ?_, fun x x0 x1 => ?_⟩
    · rw [Nat.pow_succ]
      omega
    · show (if x = (n : Int) then (((9 * q + (pl n).toNat) % 9 : Nat) : Int) else tg_dg n ((9 * q + (pl n).toNat) / 9) x) = pl x
      by_cases e : x = (n : Int)
      · rw [if_pos e, e]
        omega
      · rw [if_neg e, show (9 * q + (pl n).toNat) / 9 = q by omega]
        exact q1 x x0 (by omega)
section TGW
variable {L t : Nat} {r : MR}
theorem tg_220_l (hr : px_hr r) (d : Nat) (i0 l : MI) (m lv : Int) (hQ0 : ty_HG i0) : ∀ (n : Nat) (i : MI) (p : Int), ty_ch [143] i0 i → 0 ≤ p → p + n = 8 → (∀ x, 0 ≤ x → x < p → i 143 x = tg_rm i0 x) →
    ∃ i1 : MI, px_X (d + 1) 220 (2, [vR 123, vI m, vI lv, vI p, vJ, vJ], []) (px_sh L, i, l, r, t) = px_X (d + 1) 220 (52, [vR 123, vI m, vI lv, vI 0, vI 0, vJ], []) (px_sh L, i1, l, r, t) ∧ ty_ch [143] i0 i1 ∧ ∀ x, 0 ≤ x → x < 8 → i1 143 x = tg_rm i0 x
  | 0, i, p, hc, hp, hn, h => by
    refine ⟨i, ?_, hc, fun x x0 x1 => h x x0 (by omega)⟩
    rw [b220_2 hr _ _ _ _ _ _ (fun h => absurd (by omega) h) (fun h => absurd (by omega) h) (fun h => absurd (by omega) h), if_pos (by omega)]
  | n + 1, i, p, hc, hp, hn, h => by
    have b3 := hQ0.2.1
    have e124 : i 124 = i0 124 := hc 124 (by decide)
    have w1 : px_w32 (2 * p) = 2 * p := ty_w (by omega)
    have w2 : px_w32 (100 + 2 * p) = 100 + 2 * p := ty_w (by omega)
    have w3 : px_w32 (100 + 2 * p + 1) = 101 + 2 * p := by rw [ty_w (by omega)]; omega
    have w4 : px_w32 (p + 1) = p + 1 := ty_w (by omega)
    have h2 := b220_2 (L := L) (t := t) hr (d + 1) i l m lv p (fun _ _ => by omega) (fun _ _ => by rw [w1, w2, w3]; omega) (fun _ _ => by omega)
    rw [if_neg (by omega), w1, w2, w3, w4, e124] at h2
    have e : ∀ v, v = tg_rm i0 p → ∃ i1 : MI, px_X (d + 1) 220 (2, [vR 123, vI m, vI lv, vI (p + 1), vJ, vJ], []) (px_sh L, px_up i 143 p v, l, r, t) = px_X (d + 1) 220 (52, [vR 123, vI m, vI lv, vI 0, vI 0, vJ], []) (px_sh L, i1, l, r, t) ∧ ty_ch [143] i0 i1 ∧ ∀ x, 0 ≤ x → x < 8 → i1 143 x = tg_rm i0 x := fun v hv =>
      tg_220_l hr d i0 l m lv hQ0 n (px_up i 143 p v) (p + 1) (ty_ch_tr hc (ty_ch_up (S := [143]) (by decide)) rfl rfl) (by omega) (by omega) (fun x x0 x1 => by
        by_cases ex : x = p
        · rw [ex, ty_up_eq, hv]
        · rw [ty_up_j ex]
          exact h x x0 (by omega))
    by_cases c : i0 124 3 ≤ p
    · rw [if_pos c] at h2
      rw [h2]
      exact e 0 (if_neg (by omega)).symm
    · rw [if_neg c] at h2
      rw [h2]
      exact e _ (if_pos (show p < i0 124 3 by omega)).symm
/-- wetRank of the reference -/
theorem tg_220 (hr : px_hr r) (d : Nat) (i l : MI) (m lv : Int) (hQ : ty_HG i) (hlv : 0 ≤ lv ∧ lv ≤ 999) (hm : 0 ≤ m ∧ m ≤ 5) (hwho : ∀ k, 0 ≤ k → k < m → 0 ≤ i 152 k ∧ i 152 k < i 124 4) (hpl : ∀ k, 0 ≤ k → k < m → 0 ≤ i 153 k ∧ i 153 k < 9) :
    ∃ i1 : MI, px_C (d + 1) 220 [vR 123, vI m, vI lv] (px_sh L, i, l, r, t) = some (some (vI (tg_wr i lv (i 152) (i 153) m.toNat 0 (tg_rm i) 0)), (px_sh L, i1, l, r, t)) ∧ ty_ch [143] i i1 := by
  obtain ⟨i1, r1, c1, p1⟩ := tg_220_l (L := L) (r := r) (t := t) hr d i l m lv hQ 8 i 0 ty_ch_rf (by omega) (by omega) (fun x x0 x1 => by omega)
  obtain ⟨i2, r2, c2⟩ := tg_220_n (L := L) (r := r) (t := t) hr d i l m lv (i 152) (i 153) hQ hlv hm hwho hpl m.toNat i1 0 0 (tg_rm i) vJ px_nl_J c1 (c1 152 (by decide)) (c1 153 (by decide)) (by omega) (by omega) (by omega) (fun x x0 x1 => by
    have := tg_rm_b hQ ⟨x0, x1⟩
    exact ⟨p1 x x0 x1, by omega, by omega⟩) (fun x x0 x1 => by
    have e : tg_rm i x = 0 := if_neg (by omega)
    omega)
  refine ⟨i2, ?_, c2⟩
  rw [e220, b220_0 hr, r1, r2]
end TGW
