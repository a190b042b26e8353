/-! Perches given: the class's leastWet (110), placeFor (111), countRoom (109). -/
theorem tg_shl {g : Int} (hg : 0 ≤ g ∧ g < 10) : (0 ≤ px_shl 1 g ∧ px_shl 1 g < 1024) ∧ ∀ j, 0 ≤ j → ty_bit (px_shl 1 g) j = decide (j = g) := by
  obtain ⟨s, rfl⟩ : ∃ s : Nat, g = (s : Int) := ⟨g.toNat, by omega⟩
  have hp : 2 ^ s ≤ 2 ^ 9 := Nat.pow_le_pow_right (by omega) (by omega)
  have hp2 : ((2 ^ s : Nat) : Int) < ((1024 : Nat) : Int) := Int.ofNat_lt.mpr (Nat.lt_of_le_of_lt hp (by decide))
  rw [ty_shl_1 s (by omega)]
  refine ⟨⟨Int.natCast_nonneg _, hp2⟩, fun j j0 => ?_⟩
  unfold ty_bit
  rw [Int.toNat_natCast, Nat.testBit_two_pow]
  exact decide_eq_decide.mpr (by omega)
theorem tg_wo_0 {rk : Int → Int} {X : Int} : ∀ (n : Nat) (k : Int), (∀ j, k ≤ j → j < k + n → ty_bit X j = false) → th_wo rk X n k = 0
  | 0, _, _ => rfl
  | n + 1, k, h => by
    unfold th_wo
    rw [h k (by omega) (by omega), if_neg (by decide), tg_wo_0 n (k + 1) (fun j j0 j1 => h j (by omega) (by omega))]
    rfl
theorem tg_wo_1 {rk : Int → Int} {X g : Int} (hX : ∀ j, 0 ≤ j → ty_bit X j = decide (j = g)) : ∀ (n : Nat) (k : Int), 0 ≤ k → k ≤ g → g < k + n → th_wo rk X n k = rk g + 1
  | 0, k, h0, h1, h2 => by omega
  | n + 1, k, h0, h1, h2 => by
    unfold th_wo
    rw [hX k h0]
    by_cases e : k = g
    · rw [decide_eq_true e, if_pos rfl, tg_wo_0 n (k + 1) (fun j j0 j1 => by rw [hX j (by omega)]; exact decide_eq_false (by omega)), e]
      omega
    · rw [decide_eq_false e, if_neg (by decide), tg_wo_1 hX n (k + 1) (by omega) (by omega) (by omega)]
      omega
def tg_w (i : MI) : Int → Int := fun g => th_rk i g + 1
def tg_L (i : MI) (X D : Int) : Int := tg_lw (i 17) (tg_w i) (ty_bit X) (i 124 4).toNat 0 D
/-- the lowest place that leaves the least wet -/
def tg_pf (room : Int → Int) (dry : Int → Bool) (own : Int) (Lw : Int → Int) (D wet : Int) : Nat → Int → Int
  | 0, _ => 8
  | n + 1, p => if 0 < room p ∧ (if dry p = true then Lw (D - 1) else own + Lw D) ≤ wet then p else tg_pf room dry own Lw D wet n (p + 1)
section TGC
variable {L t : Nat} {r : MR}
/-- worthOf one -/
theorem tg_112 (hr : px_hr r) (d : Nat) (i l : MI) (g : Int) (hQ : ty_HG i) (hg : 0 ≤ g ∧ g < i 124 4) : px_C (d + 1) 112 [vR 116, vI (px_shl 1 g)] (px_sh L, i, l, r, t) = some (some (vI (tg_w i g)), (px_sh L, i, l, r, t)) := by
  have b4 := hQ.1
  have hs := tg_shl (g := g) ⟨hg.1, by omega⟩
  rw [th_112 hr d i l (px_shl 1 g) hs.1 hQ, tg_wo_1 hs.2 (i 124 4).toNat 0 (by omega) hg.1 (by omega)]
  rfl
theorem tg_110_n (hr : px_hr r) (d : Nat) (i l : MI) (X x2 : Int) (hX : 0 ≤ X ∧ X < 1024) (hQ : ty_HG i) : ∀ (n : Nat) (k x4 D : Int) (v6 : PV), px_nl v6 → 0 ≤ k → k + n = i 124 4 → 0 ≤ x4 → x4 ≤ 10 * k → -100 - k ≤ D → D ≤ 1000 →
    px_X (d + 1 + 1) 110 (8, [vR 116, vI X, vI x2, vI D, vI x4, vI k, v6], []) (px_sh L, i, l, r, t) = some (some (vI (x4 + tg_lw (i 17) (tg_w i) (ty_bit X) n k D)), (px_sh L, i, l, r, t))
  | 0, k, x4, D, v6, hn6, hk, hn, h0, h1, hD, hD1 => by
    have b4 := hQ.1
    rw [b110_8 hr _ _ _ _ _ _ _ _ hn6, if_pos (by omega)]
    show _ = some (some (vI (x4 + 0)), (px_sh L, i, l, r, t))
    rw [Int.add_zero]
  | n + 1, k, x4, D, v6, hn6, hk, hn, h0, h1, hD, hD1 => by
    have b4 := hQ.1
    have ho : ∀ x : Int, 0 ≤ x → x < i 124 4 → 0 ≤ i 17 x ∧ i 17 x < i 124 4 := hQ.2.2.2.2.1
    have hok := ho k hk (by omega)
    have hrk := (th_rk_b hQ hok).2
    have wk : px_w32 (k + 1) = k + 1 := ty_w (by omega)
    have wD : px_w32 (D + (-1)) = D - 1 := by rw [ty_w (by omega)]; omega
    have w0 : px_w32 (x4 + 0) = x4 := by rw [ty_w (by omega)]; omega
    have hw : tg_w i (i 17 k) = th_rk i (i 17 k) + 1 := rfl
    rw [b110_8 hr _ _ _ _ _ _ _ _ hn6, if_neg (by omega), q33i hr _ _ _ (px_s17 L) (Nat.le_of_ble_eq_true rfl) _ (by omega), Option.bind_some, px_psh_some, b110_32 hr _ _ _ _ _ _ _ _ hn6, q32 hr _ _ _ _ _ hX.1 (by omega), Option.bind_some, px_psh_some, b110_40 hr, wk, wD, w0]
    unfold tg_lw
    by_cases hb : ty_bit X (i 17 k) = true
    · rw [px_bi_T ⟨by omega, by omega, hb⟩, if_neg (show ¬ (1 : Int) = 0 by decide), if_pos hb]
      by_cases c : D ≤ 0
      · rw [if_pos c, if_neg (show ¬ 0 < D by omega), tg_112 hr d i l (i 17 k) hQ hok, Option.bind_some, px_psh_some, b110_61 hr, wk, wD, ty_w (x := x4 + tg_w i (i 17 k)) (by omega), tg_110_n hr d i l X x2 hX hQ n (k + 1) (x4 + tg_w i (i 17 k)) (D - 1) _ (px_nl_I _) (by omega) (by omega) (by omega) (by omega) (by omega) (by omega), Int.add_assoc]
      · rw [if_neg c, if_pos (show 0 < D by omega), tg_110_n hr d i l X x2 hX hQ n (k + 1) x4 (D - 1) _ (px_nl_I _) (by omega) (by omega) (by omega) (by omega) (by omega) (by omega), Int.zero_add]
    · rw [px_bi_F (fun h => hb h.2.2), if_pos rfl, if_neg hb, tg_110_n hr d i l X x2 hX hQ n (k + 1) x4 D _ (px_nl_I _) (by omega) (by omega) (by omega) (by omega) (by omega) (by omega)]
/-- leastWet -/
theorem tg_110 (hr : px_hr r) (d : Nat) (i l : MI) (X D : Int) (hX : 0 ≤ X ∧ X < 1024) (hQ : ty_HG i) (hD : -100 ≤ D ∧ D ≤ 1000) : px_C (d + 1 + 1) 110 [vR 116, vI X, vI D] (px_sh L, i, l, r, t) = some (some (vI (tg_L i X D)), (px_sh L, i, l, r, t)) := by
  have b4 := hQ.1
  rw [e110, b110_0 hr, tg_110_n hr d i l X D hX hQ (i 124 4).toNat 0 0 D vJ px_nl_J (by omega) (by omega) (by omega) (by omega) (by omega) hD.2, Int.zero_add]
  rfl
theorem tg_lw_b {f w : Int → Int} {X : Int → Bool} {M : Int} (hM : 0 ≤ M) : ∀ (n : Nat) (k D : Int), (∀ x, k ≤ x → x < k + n → w (f x) ≤ M) → tg_lw f w X n k D ≤ M * n
  | 0, k, D, _ => by
    show (0 : Int) ≤ M * ((0 : Nat) : Int)
    omega
  | n + 1, k, D, h => by
    have hk := h k (by omega) (by omega)
    have hr := fun D' => tg_lw_b (f := f) (w := w) (X := X) hM n (k + 1) D' (fun x x0 x1 => h x (by omega) (by omega))
    have e : M * ((n + 1 : Nat) : Int) = M * n + M := by rw [Int.natCast_add, Int.mul_add]; omega
    rw [e]
    unfold tg_lw
    by_cases c : X (f k) = true
    · rw [if_pos c]
      have := hr (D - 1)
      by_cases d : 0 < D
      · rw [if_pos d]
        omega
      · rw [if_neg d]
        omega
    · rw [if_neg c]
      have := hr D
      omega
theorem tg_L_b {i : MI} (hQ : ty_HG i) (X D : Int) : 0 ≤ tg_L i X D ∧ tg_L i X D ≤ 100 := by
  have b4 := hQ.1
  have ho : ∀ x : Int, 0 ≤ x → x < i 124 4 → 0 ≤ i 17 x ∧ i 17 x < i 124 4 := hQ.2.2.2.2.1
  have hw : ∀ x : Int, 0 ≤ x → x < i 124 4 → 0 ≤ tg_w i (i 17 x) ∧ tg_w i (i 17 x) ≤ 10 := fun x x0 x1 => by
    have h := (th_rk_b hQ (ho x x0 x1)).2
    have e : tg_w i (i 17 x) = th_rk i (i 17 x) + 1 := rfl
    omega
  have h1 := tg_lw_0 (f := i 17) (w := tg_w i) (X := ty_bit X) (i 124 4).toNat 0 D (fun x x0 x1 => (hw x x0 (by omega)).1)
  have h2 := tg_lw_b (f := i 17) (w := tg_w i) (X := ty_bit X) (M := 10) (by omega) (i 124 4).toNat 0 D (fun x x0 x1 => (hw x x0 (by omega)).2)
  unfold tg_L
  omega
theorem tg_111_n (hr : px_hr r) (d : Nat) (i l : MI) (g X lv wet : Int) (hX : 0 ≤ X ∧ X < 1024) (hQ : ty_HG i) (hg : 0 ≤ g ∧ g < i 124 4) (hD : -50 ≤ i 116 4 ∧ i 116 4 ≤ 500) : ∀ (n : Nat) (p : Int) (v6 v7 : PV), px_nl v6 → px_nl v7 → 0 ≤ p → p + n = i 124 3 →
    px_X (d + 1 + 1 + 1) 111 (3, [vR 116, vI g, vI X, vI lv, vI wet, vI p, v6, v7], []) (px_sh L, i, l, r, t) = some (some (vI (tg_pf (i 117) (fun p => decide (lv ≤ i 124 (100 + 2 * p))) (tg_w i g) (tg_L i X) (i 116 4) wet n p)), (px_sh L, i, l, r, t))
  | 0, p, v6, v7, hn6, hn7, hp, hn => by
    have b3 := hQ.2.1
    rw [b111_3 hr _ _ _ _ _ _ _ _ hn6 hn7, if_pos (by omega)]
    rfl
  | n + 1, p, v6, v7, hn6, hn7, hp, hn => by
    have b3 := hQ.2.1
    have hhi : ty_at (i 14) 8 p = i 124 (100 + 2 * p) := by
      rw [ty_at_in (by omega)]
      exact (hQ.2.2.1 p hp (by omega)).1.1
    have wp : px_w32 (p + 1) = p + 1 := ty_w (by omega)
    have hrk := (th_rk_b hQ hg).2
    have hw : tg_w i g = th_rk i g + 1 := rfl
    have e24 : px_X (d + 1 + 1 + 1) 111 (3, [vR 116, vI g, vI X, vI lv, vI wet, vI p, v6, v7], []) (px_sh L, i, l, r, t) = px_X (d + 1 + 1 + 1) 111 (24, [vR 116, vI g, vI X, vI lv, vI wet, vI p, v6, v7], [vI (i 117 p)]) (px_sh L, i, l, r, t) := by
      rw [b111_3 hr _ _ _ _ _ _ _ _ hn6 hn7, if_neg (by omega), q33i hr _ _ _ (px_s117 L) (Nat.le_of_ble_eq_true rfl) _ (by omega), Option.bind_some, px_psh_some]
    have epf : tg_pf (i 117) (fun p => decide (lv ≤ i 124 (100 + 2 * p))) (tg_w i g) (tg_L i X) (i 116 4) wet (n + 1) p = if 0 < i 117 p ∧ (if decide (lv ≤ i 124 (100 + 2 * p)) = true then tg_L i X (i 116 4 - 1) else tg_w i g + tg_L i X (i 116 4)) ≤ wet then p else tg_pf (i 117) (fun p => decide (lv ≤ i 124 (100 + 2 * p))) (tg_w i g) (tg_L i X) (i 116 4) wet n (p + 1) := rfl
    rw [e24, epf, b111_24 hr _ _ _ _ _ _ _ _ hn6 hn7, wp]
    by_cases c0 : 0 < i 117 p
    · rw [if_pos c0, q56 hr, hhi, Option.bind_some, px_psh_some, b111_39 hr _ _ _ _ _ _ _ _ hn6 hn7]
      by_cases cd : i 124 (100 + 2 * p) < lv
      · have hb := tg_L_b hQ X (i 116 4)
        rw [if_pos cd, b111_48 hr _ _ _ _ _ _ _ _ hn6 hn7, if_pos rfl, tg_112 hr (d + 1) i l g hQ hg, Option.bind_some, px_psh_some, b111_66 hr _ _ _ _ _ _ _ _ _ hn7, if_pos rfl, b111_90 hr, tg_110 hr d i l X (i 116 4) hX hQ (by omega), Option.bind_some, px_psh_some, b111_93 hr, wp, ty_w (x := tg_w i g + tg_L i X (i 116 4)) (by omega), if_neg (show ¬ decide (lv ≤ i 124 (100 + 2 * p)) = true from fun h => by have := of_decide_eq_true h; omega)]
        by_cases cw : tg_w i g + tg_L i X (i 116 4) ≤ wet
        · rw [if_neg (by omega), if_pos ⟨c0, cw⟩]
        · rw [if_pos (by omega), if_neg (fun h => cw h.2), tg_111_n hr d i l g X lv wet hX hQ hg hD n (p + 1) _ _ (px_nl_I _) (px_nl_I _) (by omega) (by omega)]
      · have hb := tg_L_b hQ X (i 116 4 - 1)
        rw [if_neg cd, b111_48 hr _ _ _ _ _ _ _ _ hn6 hn7, if_neg (by decide), b111_66 hr _ _ _ _ _ _ _ _ _ hn7, if_neg (by decide), ty_w (x := i 116 4 - 1) (by omega), b111_90 hr, tg_110 hr d i l X (i 116 4 - 1) hX hQ (by omega), Option.bind_some, px_psh_some, b111_93 hr, wp, ty_w (x := 0 + tg_L i X (i 116 4 - 1)) (by omega), Int.zero_add, if_pos (show decide (lv ≤ i 124 (100 + 2 * p)) = true from decide_eq_true (by omega))]
        by_cases cw : tg_L i X (i 116 4 - 1) ≤ wet
        · rw [if_neg (by omega), if_pos ⟨c0, cw⟩]
        · rw [if_pos (by omega), if_neg (fun h => cw h.2), tg_111_n hr d i l g X lv wet hX hQ hg hD n (p + 1) _ _ (px_nl_I _) (px_nl_I _) (by omega) (by omega)]
    · rw [if_neg c0, if_neg (fun h => c0 h.1), tg_111_n hr d i l g X lv wet hX hQ hg hD n (p + 1) _ _ hn6 hn7 (by omega) (by omega)]
end TGC
