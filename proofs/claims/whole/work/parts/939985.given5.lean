/-! Perches given: deal, whole (108). -/
def tg_D (i : MI) (lv : Int) : Int := (if lv ≤ 0 then 10 else 0) + tg_sd (tg_rm i) (tg_dr i lv) 8 0
theorem tg_rm_b {i : MI} (hQ : ty_HG i) {x : Int} (hx : 0 ≤ x ∧ x < 8) : 0 ≤ tg_rm i x ∧ tg_rm i x ≤ 4 := by
  unfold tg_rm
  by_cases c : x < i 124 3
  · have h := (hQ.2.2.1 x hx.1 c).2
    rw [if_pos c]
    omega
  · rw [if_neg c]
    omega
theorem tg_D_b {i : MI} (hQ : ty_HG i) (lv : Int) : 0 ≤ tg_D i lv ∧ tg_D i lv ≤ 42 := by
  have h := tg_sd_b (room := tg_rm i) (dry := tg_dr i lv) 8 0 (fun x x0 x1 => tg_rm_b hQ ⟨x0, by omega⟩)
  unfold tg_D
  split <;> omega
section TGF
variable {L t : Nat} {r : MR}
theorem tg_108 (hr : px_hr r) (d : Nat) (i l : MI) (m guest S : Int) (hQ : ty_Q i) (hS : S = ty_hset i) (hm : 0 ≤ m ∧ m < 1440) (hh : ∀ g : Int, 0 ≤ g → g < i 124 4 → i (21 + g.toNat) 8 = i 124 (128 + 14 * g)) :
    ∃ i1 : MI, px_C (d + 4 + 1) 108 [vR 116, vI m, vI guest] (px_sh L, i, l, r, t) = some (some (vI (if guest = -1 then tg_L i S (tg_D i (ty_lev i m)) else tg_dl i (ty_lev i m) guest (i 124 4).toNat 0 S (tg_rm i) (tg_D i (ty_lev i m)) (tg_L i S (tg_D i (ty_lev i m))))), (px_sh L, i1, l, r, t)) ∧ ty_ch [70, 71, 72, 116, 117] i i1 ∧ ty_Q i1 := by
  have b4 := hQ.2.1
  have b3 := hQ.2.2.1
  have hSb : 0 ≤ S ∧ S < 1024 := by rw [hS]; exact ty_hset_b b4.2.2
  obtain ⟨i1, r1, c1, -, v1⟩ := q65 (L := L) (r := r) (t := t) hr d i l m hQ.1 hm
  have hlb := ty_lev_b (i := i) hm.1
  obtain ⟨lv, hlv⟩ : ∃ lv, lv = ty_lev i m := ⟨_, rfl⟩
  rw [← hlv] at r1 hlb ⊢
  have Q1 : ty_Q i1 := ⟨v1, ty_HG_ch hQ.2 c1 rfl⟩
  have e124 : i1 124 = i 124 := c1 124 (by decide)
  have h57 := q57 (L := L) (r := r) (t := t) hr (d + 3) i1 l Q1.2.1.1 Q1.2.1.2 (fun g g0 g1 => by
    rw [e124] at g1 ⊢
    rw [c1 (21 + g.toNat) (by simp only [List.mem_cons, List.not_mem_nil, or_false]; omega)]
    exact hh g g0 g1)
  have hhs : ty_hset i1 = S := by
    rw [hS]
    unfold ty_hset
    rw [e124]
  rw [hhs] at h57
  obtain ⟨i2, r2, c2, p4, p7⟩ := tg_109 (L := L) (r := r) (t := t) hr (d + 2) i1 l lv Q1.2
  have er : tg_rm i1 = tg_rm i := by
    unfold tg_rm
    rw [e124]
  have ed : tg_dr i1 lv = tg_dr i lv := by
    unfold tg_dr
    rw [e124]
  rw [er, ed] at p4
  rw [er] at p7
  have p4' : i2 116 4 = tg_D i lv := p4
  have c12 : ty_ch [70, 71, 72, 116, 117] i i2 := ty_ch_tr c1 c2 rfl rfl
  have Q2 : ty_Q i2 := ty_Q_ch Q1 c2 rfl
  have f124 : i2 124 = i 124 := c12 124 (by decide)
  have f17 : i2 17 = i 17 := c12 17 (by decide)
  have hDb := tg_D_b hQ.2 lv
  have h110 := tg_110 (L := L) (r := r) (t := t) hr (d + 2) i2 l S (tg_D i lv) hSb Q2.2 (by omega)
  rw [tg_L_c f17 f124] at h110
  have hLb := tg_L_b hQ.2 S (tg_D i lv)
  have head : px_C (d + 4 + 1) 108 [vR 116, vI m, vI guest] (px_sh L, i, l, r, t) = px_X (d + 4 + 1) 108 (33, [vR 116, vI m, vI guest, vI lv, vI S, vJ, vJ, vJ, vJ], [vI (tg_L i S (tg_D i lv))]) (px_sh L, i2, l, r, t) := by
    rw [e108, b108_0 hr, r1, Option.bind_some, px_psh_some, b108_8 hr, h57, Option.bind_some, px_psh_some, b108_16 hr, r2, Option.bind_some, px_psh_none, b108_23 hr, p4', h110, Option.bind_some, px_psh_some]
  by_cases hg : guest = -1
  · refine ⟨i2, ?_, c12, Q2⟩
    rw [head, b108_33 hr, if_pos hg, if_pos hg]
  · obtain ⟨i3, r3, c3⟩ := tg_108_n (L := L) (r := r) (t := t) hr (d + 1) i2 l m lv guest Q2.2 hlb (i 124 4).toNat i2 0 S (tg_L i S (tg_D i lv)) (tg_rm i) vJ vJ px_nl_J px_nl_J ty_ch_rf hSb (by omega) (by rw [f124]; omega) (by rw [p4']; omega) (by omega) (fun x x0 x1 => by
      have := tg_rm_b hQ.2 ⟨x0, x1⟩
      exact ⟨p7 x x0 x1, by omega, by omega⟩)
    have edl : ∀ (n : Nat) (g X D wet : Int) (room : Int → Int), tg_dl i2 lv guest n g X room D wet = tg_dl i lv guest n g X room D wet := fun n => by
      have eL := tg_L_c f17 f124
      have ew : tg_w i2 = tg_w i := by
        unfold tg_w th_rk
        rw [f124]
      have ed2 : tg_dr i2 lv = tg_dr i lv := by
        unfold tg_dr
        rw [f124]
      have epl : tg_pl i2 lv = tg_pl i lv := by
        unfold tg_pl
        rw [eL, ew, ed2, f124]
      have edp : tg_dp i2 lv = tg_dp i lv := by
        unfold tg_dp
        rw [ed2]
      induction n with
      | zero => intro g X D wet room; rfl
      | succ n ih =>
        intro g X D wet room
        unfold tg_dl
        rw [epl, edp, ew, ih, ih]
    rw [edl, p4'] at r3
    refine ⟨i3, ?_, ty_ch_tr c12 c3 rfl rfl, ty_Q_ch Q2 c3 rfl⟩
    rw [head, b108_33 hr, if_neg hg, if_neg hg]
    exact r3
end TGF
