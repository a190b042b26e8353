/-! Perches given: the reference's wetRank (220). -/
/-- what is wet when the guests who k, who (k + 1), .. take the places pl k, ..; -1: they don't fit -/
def tg_wr (i : MI) (lv : Int) (who pl : Int → Int) : Nat → Int → (Int → Int) → Int → Int
  | 0, _, _, s => s
  | n + 1, k, room, s => if pl k = 8 ∨ 0 < room (pl k) then tg_wr i lv who pl n (k + 1) (fun y => if y = pl k then room y - 1 else room y) (if tg_dp i lv (pl k) = true then s else s + tg_w i (who k)) else -1
theorem tg_wr_c {i : MI} {lv : Int} {who pl : Int → Int} : ∀ (n : Nat) (k s : Int) (room room' : Int → Int), (∀ x, k ≤ x → x < k + n → 0 ≤ pl x ∧ pl x < 9) → (∀ x, 0 ≤ x → x < 8 → room' x = room x) → tg_wr i lv who pl n k room' s = tg_wr i lv who pl n k room s
  | 0, _, _, _, _, _, _ => rfl
  | n + 1, k, s, room, room', hp, h => by
    have hk := hp k (by omega) (by omega)
    have e : (pl k = 8 ∨ 0 < room' (pl k)) ↔ (pl k = 8 ∨ 0 < room (pl k)) := by
      by_cases c : pl k = 8
      · exact ⟨fun _ => Or.inl c, fun _ => Or.inl c⟩
      · rw [h (pl k) hk.1 (by omega)]
    have e2 := fun s' => tg_wr_c (i := i) (lv := lv) (who := who) (pl := pl) n (k + 1) s' (fun y => if y = pl k then room y - 1 else room y) (fun y => if y = pl k then room' y - 1 else room' y) (fun x x0 x1 => hp x (by omega) (by omega)) (fun x x0 x1 => by
      show (if x = pl k then room' x - 1 else room' x) = (if x = pl k then room x - 1 else room x)
      rw [h x x0 x1])
    unfold tg_wr
    by_cases c : pl k = 8 ∨ 0 < room (pl k)
    · rw [if_pos c, if_pos (e.mpr c), e2]
    · rw [if_neg c, if_neg (fun h => c (e.mp h))]
section TGW
variable {L t : Nat} {r : MR}
theorem tg_220_n (hr : px_hr r) (d : Nat) (i0 l : MI) (m lv : Int) (who pl : Int → Int) (hQ0 : ty_HG i0) (hlv : 0 ≤ lv ∧ lv ≤ 999) (hm : 0 ≤ m ∧ m ≤ 5) (hwho : ∀ k, 0 ≤ k → k < m → 0 ≤ who k ∧ who k < i0 124 4) (hpl : ∀ k, 0 ≤ k → k < m → 0 ≤ pl k ∧ pl k < 9) : ∀ (n : Nat) (i : MI) (k s : Int) (room : Int → Int) (v5 : PV), px_nl v5 → ty_ch [143] i0 i → i 152 = who → i 153 = pl → 0 ≤ k → k + n = m → (0 ≤ s ∧ s ≤ 10 * k) → (∀ x, 0 ≤ x → x < 8 → i 143 x = room x ∧ -k ≤ room x ∧ room x ≤ 4) → (∀ x, i0 124 3 ≤ x → x < 8 → room x ≤ 0) →
    ∃ i1 : MI, px_X (d + 1) 220 (52, [vR 123, vI m, vI lv, vI s, vI k, v5], []) (px_sh L, i, l, r, t) = some (some (vI (tg_wr i0 lv who pl n k room s)), (px_sh L, i1, l, r, t)) ∧ ty_ch [143] i0 i1
  | 0, i, k, s, room, v5, hn5, hc, hw, hp, hk, hn, hs, hro, hz => by
    refine ⟨i, ?_, hc⟩
    rw [b220_52 hr _ _ _ _ _ _ _ hn5 (fun h => absurd (by omega) h) (fun h => absurd (by omega) h), if_pos (by omega)]
    rfl
  | n + 1, i, k, s, room, v5, hn5, hc, hw, hp, hk, hn, hs, hro, hz => by
    have b3 := hQ0.2.1
    have b4 := hQ0.1
    have hpk := hpl k hk (by omega)
    have hwk := hwho k hk (by omega)
    have e124 : i 124 = i0 124 := hc 124 (by decide)
    have hrk := (th_rk_b hQ0 hwk).2
    have hw1 : tg_w i0 (who k) = th_rk i0 (who k) + 1 := rfl
    have wk : px_w32 (k + 1) = k + 1 := ty_w (by omega)
    have h52 := b220_52 (L := L) (t := t) hr (d + 1) i l m lv s k hn5 (fun _ => by omega) (fun _ h => by rw [hp] at h ⊢; omega)
    rw [if_neg (by omega), hp] at h52
    have ewr : tg_wr i0 lv who pl (n + 1) k room s = if pl k = 8 ∨ 0 < room (pl k) then tg_wr i0 lv who pl n (k + 1) (fun y => if y = pl k then room y - 1 else room y) (if tg_dp i0 lv (pl k) = true then s else s + tg_w i0 (who k)) else -1 := rfl
    obtain ⟨s', hs'⟩ : ∃ s', s' = if tg_dp i0 lv (pl k) = true then s else s + tg_w i0 (who k) := ⟨_, rfl⟩
    have hs'b : 0 ≤ s' ∧ s' ≤ s + 10 := by
      rw [hs']
      split <;> omega
    have fin : ∀ j : MI, ty_ch [143] i0 j → j 152 = who → j 153 = pl → (∀ x, 0 ≤ x → x < 8 → j 143 x = (if x = pl k then room x - 1 else room x)) → (pl k = 8 ∨ 0 < room (pl k)) → px_X (d + 1) 220 (52, [vR 123, vI m, vI lv, vI s, vI k, v5], []) (px_sh L, i, l, r, t) = px_X (d + 1) 220 (97, [vR 123, vI m, vI lv, vI s, vI k, vI (pl k)], []) (px_sh L, j, l, r, t) →
        ∃ i1 : MI, px_X (d + 1) 220 (52, [vR 123, vI m, vI lv, vI s, vI k, v5], []) (px_sh L, i, l, r, t) = some (some (vI (tg_wr i0 lv who pl (n + 1) k room s)), (px_sh L, i1, l, r, t)) ∧ ty_ch [143] i0 i1 := fun j cj jw jp jr hfit hx => by
      have j124 : j 124 = i0 124 := cj 124 (by decide)
      have h97 : px_X (d + 1) 220 (97, [vR 123, vI m, vI lv, vI s, vI k, vI (pl k)], []) (px_sh L, j, l, r, t) = px_X (d + 1) 220 (116, [vR 123, vI m, vI lv, vI s, vI k, vI (pl k)], [vI (if pl k = 8 then 0 else i0 124 (100 + 2 * pl k)), vI lv, vI s]) (px_sh L, j, l, r, t) := by
        rw [b220_97 hr]
        by_cases c8 : pl k = 8
        · rw [if_pos c8, if_pos c8]
        · rw [if_neg c8, if_neg c8, q194 hr _ _ _ _ (by omega), if_neg (by omega), j124, Option.bind_some, px_psh_some]
      have hdp : tg_dp i0 lv (pl k) = true ↔ lv ≤ (if pl k = 8 then 0 else i0 124 (100 + 2 * pl k)) := by
        unfold tg_dp
        by_cases c8 : pl k = 8
        · rw [if_pos c8, if_pos c8, decide_eq_true_iff]
        · rw [if_neg c8, if_neg c8]
          exact decide_eq_true_iff
      have h52b : px_X (d + 1) 220 (116, [vR 123, vI m, vI lv, vI s, vI k, vI (pl k)], [vI (if pl k = 8 then 0 else i0 124 (100 + 2 * pl k)), vI lv, vI s]) (px_sh L, j, l, r, t) = px_X (d + 1) 220 (52, [vR 123, vI m, vI lv, vI s', vI (k + 1), vI (pl k)], []) (px_sh L, j, l, r, t) := by
        rw [b220_116 hr _ _ _ _ _ _ _ _ _ _ _ (fun _ => by omega), wk]
        by_cases c : lv ≤ (if pl k = 8 then 0 else i0 124 (100 + 2 * pl k))
        · rw [if_pos c, hs', if_pos (hdp.mpr c), ty_w (x := s + 0) (by omega), Int.add_zero]
        · rw [if_neg c, jw, q146 hr _ _ _ _ _ (by omega) (by omega), j124, show 120 + 14 * who k + 0 = 120 + 14 * who k by omega, Option.bind_some, px_psh_some, b220_131 hr, wk, hs', if_neg (fun h => c (hdp.mp h))]
          show px_X (d + 1) 220 (52, [vR 123, vI m, vI lv, vI (px_w32 (s + px_w32 (th_rk i0 (who k) + 1))), vI (k + 1), vI (pl k)], []) (px_sh L, j, l, r, t) = _
          rw [ty_w (x := th_rk i0 (who k) + 1) (by omega), ty_w (x := s + (th_rk i0 (who k) + 1)) (by omega), hw1]
      obtain ⟨i1, r1, c1⟩ := tg_220_n hr d i0 l m lv who pl hQ0 hlv hm hwho hpl n j (k + 1) s' (fun y => if y = pl k then room y - 1 else room y) (vI (pl k)) (px_nl_I _) cj jw jp (by omega) (by omega) (by omega) (fun x x0 x1 => by
        have h := hro x x0 x1
        have h2 := jr x x0 x1
        show j 143 x = (if x = pl k then room x - 1 else room x) ∧ -(k + 1) ≤ (if x = pl k then room x - 1 else room x) ∧ (if x = pl k then room x - 1 else room x) ≤ 4
        refine ⟨h2, ?_, ?_⟩
        · split <;> omega
        · split <;> omega) (fun x x0 x1 => by
        have h := hz x x0 x1
        show (if x = pl k then room x - 1 else room x) ≤ 0
        split <;> omega)
      refine ⟨i1, ?_, c1⟩
      rw [hx, h97, h52b, r1, ewr, if_pos hfit, ← hs']
    by_cases c8 : pl k = 8
    · rw [if_pos c8] at h52
      refine fin i hc hw hp (fun x x0 x1 => ?_) (Or.inl c8) h52
      rw [if_neg (by omega)]
      exact (hro x x0 x1).1
    · rw [if_neg c8] at h52
      have hr2 := hro (pl k) hpk.1 (by omega)
      rw [hr2.1, ty_up_eq, ty_w (x := room (pl k) - 1) (by omega)] at h52
      have cu : ty_ch [143] i0 (px_up i 143 (pl k) (room (pl k) - 1)) := ty_ch_tr hc (ty_ch_up (S := [143]) (by decide)) rfl rfl
      by_cases c : 0 ≤ room (pl k) - 1
      · rw [if_pos c] at h52
        refine fin _ cu (by rw [ty_up_row (by decide)]; exact hw) (by rw [ty_up_row (by decide)]; exact hp) (fun x x0 x1 => ?_) (Or.inr (by omega)) h52
        by_cases ex : x = pl k
        · rw [if_pos ex, ex, ty_up_eq]
        · rw [if_neg ex, ty_up_j ex]
          exact (hro x x0 x1).1
      · rw [if_neg c] at h52
        refine ⟨_, ?_, cu⟩
        rw [h52, ewr, if_neg (fun h => by omega)]
end TGW
