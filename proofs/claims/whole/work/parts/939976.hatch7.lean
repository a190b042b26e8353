/-! The call hatch. -/
section THZ
variable {L t : Nat} {r : MR}
/-- getOut -/
theorem th_113 (hr : px_hr r) (d : Nat) (i l : MI) (S m : Int) (PL : Int → Int) (hQ : ty_Q i) (hS : S = ty_hset i) (hm : 0 ≤ m ∧ m < 1440) (hh : ∀ g : Int, 0 ≤ g → g < i 124 4 → i (21 + g.toNat) 8 = i 124 (128 + 14 * g)) (hp : ∀ g, 0 ≤ g → g < 10 → i 105 g = PL g ∧ -1 ≤ PL g ∧ PL g < i 124 3) :
    ∃ (i1 : MI) (E q : Int → Int) (c : Int), px_C (d + 4 + 1 + 1) 113 [vR 116, vI m] (px_sh L, i, l, r, t) = some (some (vI (th_lp (fun X => th_go q E (th_B i) X c.toNat 0 m) (fun X => th_wo (th_rk i) X (i 124 4).toNat 0) S S.toNat 1 0 0).1), (px_sh L, i1, l, r, t)) ∧ ty_ch [70, 71, 72, 116, 118, 119] i i1 ∧ ty_Q i1 ∧ th_Qu E S (i 124 4) q c ∧ (0 ≤ c ∧ c ≤ i 124 4) ∧ ∀ x, 0 ≤ x → x < 10 → E x = if ty_bit S x = true then th_E (th_H i PL) (th_N i) (ty_lev i) m x else 1440 := by
  have b4 := hQ.2.1
  have hSb : 0 ≤ S ∧ S < 1024 := by rw [hS]; exact ty_hset_b b4.2.2
  have h57 := q57 (L := L) (r := r) (t := t) hr (d + 4) i l b4.1 b4.2 hh
  rw [← hS] at h57
  obtain ⟨i1, r1, c1, Q1, p1⟩ := th_114 (L := L) (r := r) (t := t) hr d i l S m PL hQ hSb (fun x x0 x1 hx => by
    rw [hS] at hx
    exact ((ty_hset_bit (i := i) x0).mp hx).1) hm hp
  have e4 : i1 4 6 = i 124 4 := by rw [c1 4 (by decide)]; exact b4.1
  obtain ⟨i2, c, r2, c2, h7, hc, hq⟩ := th_115 (L := L) (r := r) (t := t) hr (d + 4) i1 l S (i 124 4) hSb ⟨e4, b4.2⟩
  have Q2 : ty_Q i2 := ty_Q_ch Q1 c2 rfl
  have cc : ty_ch [70, 71, 72, 116, 118, 119] i i2 := ty_ch_tr c1 c2 rfl rfl
  have e124 : i2 124 = i 124 := cc 124 (by decide)
  have e118 : i2 118 = i1 118 := c2 118 (by decide)
  have hEb : ∀ g, 0 ≤ g → g < i 124 4 → i1 118 g ≤ 1440 := fun g g0 g1 => by
    rw [p1 g g0 (by omega)]
    by_cases cb : ty_bit S g = true
    · rw [if_pos cb]
      have := (th_fs_b (P := th_P (th_H i PL) (th_N i) (ty_lev i) g) (1440 - m).toNat m).2
      unfold th_E
      omega
    · rw [if_neg cb]
      omega
  have hw : ∀ X, 0 ≤ X → X < 1024 → px_C (d + 4 + 1) 112 [vR 116, vI X] (px_sh L, i2, l, r, t) = some (some (vI (th_wo (th_rk i) X (i 124 4).toNat 0)), (px_sh L, i2, l, r, t)) := fun X x0 x1 => by
    have h := th_112 (L := L) (r := r) (t := t) hr (d + 4) i2 l X ⟨x0, x1⟩ Q2.2
    rw [e124] at h
    have e : th_rk i2 = th_rk i := by
      unfold th_rk
      rw [e124]
    rw [e] at h
    exact h
  have hok : ∀ X, 0 ≤ X → X < 1024 → px_C (d + 4 + 1) 116 [vR 116, vI X, vI m] (px_sh L, i2, l, r, t) = some (some (vI (ty_b (th_go (i2 119) (i1 118) (th_B i) X c.toNat 0 m))), (px_sh L, i2, l, r, t)) := fun X x0 x1 => by
    rw [e116, b116_0 hr]
    exact th_116_n hr (d + 4) i2 l X m (i 124 4) c (i1 118) (i2 119) (th_B i) ⟨x0, x1⟩ ⟨by rw [cc 4 (by decide)]; exact b4.1, b4.2⟩ e118 hEb rfl ⟨h7, by omega⟩ (fun x x0 x1 => (hq.1 x x0 x1).1) (fun g g0 g1 => by
      rw [cc (21 + g.toNat) (by simp only [List.mem_cons, List.not_mem_nil, or_false]; omega)]
      exact th_B_b hQ.2 g0 g1) c.toNat 0 m vJ vJ px_nl_J px_nl_J (by omega) (by omega) (by omega) (by omega)
  refine ⟨i2, i1 118, i2 119, c, ?_, cc, Q2, hq, hc, p1⟩
  rw [e113, b113_0 hr, h57, Option.bind_some, px_psh_some, b113_7 hr, r1, Option.bind_some, px_psh_none, b113_14 hr, r2, Option.bind_some, px_psh_none, b113_19 hr]
  exact th_113_l hr (d + 4) i2 l S m (fun X => th_wo (th_rk i) X (i 124 4).toNat 0) (fun X => th_go (i2 119) (i1 118) (th_B i) X c.toNat 0 m) hSb hw hok S.toNat 1 0 0 vJ px_nl_J (by omega) (by omega)
theorem th_219_n (hr : px_hr r) (d : Nat) (i l : MI) (S G : Int) (hG : i 124 4 = G ∧ 0 ≤ G ∧ G ≤ 10) (hb : ∀ g, 0 ≤ g → g < G → i 124 (128 + 14 * g) = if ty_bit S g = true then 1 else 0) : ∀ (n : Nat) (g x1 : Int), 0 ≤ g → g + n = G → 0 ≤ x1 → x1 ≤ g →
    px_X (d + 1) 219 (4, [vR 123, vI x1, vI g], []) (px_sh L, i, l, r, t) = some (some (vI (x1 + th_ct S n g)), (px_sh L, i, l, r, t))
  | 0, g, x1, hg, hn, h0, h1 => by
    rw [b219_4 hr, if_pos (by omega)]
    show _ = some (some (vI (x1 + 0)), (px_sh L, i, l, r, t))
    rw [Int.add_zero]
  | n + 1, g, x1, hg, hn, h0, h1 => by
    have hbg := hb g hg (by omega)
    have hv : 0 ≤ i 124 (128 + 14 * g) ∧ i 124 (128 + 14 * g) ≤ 1 := by
      rw [hbg]
      split <;> omega
    rw [b219_4 hr, if_neg (by omega), q146 hr _ _ _ _ _ (by omega) (by omega), show 120 + 14 * g + 8 = 128 + 14 * g by omega, Option.bind_some, px_psh_some, b219_22 hr, ty_w (x := g + 1) (by omega), ty_w (x := x1 + i 124 (128 + 14 * g)) (by omega), th_219_n hr d i l S G hG hb n (g + 1) (x1 + i 124 (128 + 14 * g)) (by omega) (by omega) (by omega) (by omega), hbg]
    show _ = some (some (vI (x1 + ((if ty_bit S g = true then 1 else 0) + th_ct S n (g + 1)))), (px_sh L, i, l, r, t))
    rw [Int.add_assoc]
theorem th_b01 {X k : Int} (hX : 0 ≤ X ∧ X < 1024) (hk : 0 ≤ k ∧ k < 10) : px_and (px_shr X k) 1 = if ty_bit X k = true then 1 else 0 := by
  by_cases c : ty_bit X k = true
  · rw [if_pos c]
    exact (th_b1 hX hk).mpr c
  · rw [if_neg c]
    obtain ⟨n, rfl⟩ : ∃ n : Nat, X = (n : Int) := ⟨X.toNat, by omega⟩
    obtain ⟨s, rfl⟩ : ∃ s : Nat, k = (s : Int) := ⟨k.toNat, by omega⟩
    have h1 : n >>> s ≤ n := Nat.shiftRight_le n s
    have h3 : ¬ px_and (px_shr (n : Int) (s : Int)) 1 = 1 := fun h => c ((th_b1 hX hk).mp h)
    rw [ty_shr_nat (by omega) (by omega)] at h3 ⊢
    obtain ⟨u, hu⟩ : ∃ u : Nat, u = n >>> s := ⟨_, rfl⟩
    rw [← hu] at h1 h3 ⊢
    have e : px_and (u : Int) 1 = ((u &&& 1 : Nat) : Int) := ty_and_nat (m := 1) (by omega) (by omega)
    obtain ⟨v, hv⟩ : ∃ v : Nat, v = u &&& 1 := ⟨_, rfl⟩
    have h2 : u &&& 1 ≤ 1 := Nat.and_le_right
    rw [e, ← hv] at h3
    rw [e, ← hv]
    rw [← hv] at h2
    omega
theorem th_224_c (hr : px_hr r) (d : Nat) (i l : MI) (m wh S B mo G : Int) (hB : 0 ≤ B ∧ B < 1024) (hG : i 124 4 = G ∧ 0 ≤ G ∧ G ≤ 10) {v8 : PV} (hn8 : px_nl v8) : ∀ (n : Nat) (g x6 : Int), 0 ≤ g → g + n = G → 0 ≤ x6 → x6 ≤ g →
    px_X (d + 1) 224 (145, [vR 123, vI m, vI wh, vI S, vI B, vI mo, vI x6, vI g, v8], []) (px_sh L, i, l, r, t) = px_X (d + 1) 224 (145, [vR 123, vI m, vI wh, vI S, vI B, vI mo, vI (x6 + th_ct B n g), vI G, v8], []) (px_sh L, i, l, r, t)
  | 0, g, x6, hg, hn, h0, h1 => by
    show _ = px_X (d + 1) 224 (145, [vR 123, vI m, vI wh, vI S, vI B, vI mo, vI (x6 + 0), vI G, v8], []) (px_sh L, i, l, r, t)
    rw [Int.add_zero, show g = G by omega]
  | n + 1, g, x6, hg, hn, h0, h1 => by
    have hv := th_b01 hB (k := g) (by omega)
    obtain ⟨y, hy⟩ : ∃ y : Int, y = if ty_bit B g = true then 1 else 0 := ⟨_, rfl⟩
    have yb : 0 ≤ y ∧ y ≤ 1 := by
      rw [hy]
      split <;> omega
    rw [← hy] at hv
    rw [b224_145 hr _ _ _ _ _ _ _ _ _ _ hn8, if_neg (by omega), hv, ty_w (x := g + 1) (by omega), ty_w (x := x6 + y) (by omega), th_224_c hr d i l m wh S B mo G hB hG hn8 n (g + 1) (x6 + y) (by omega) (by omega) (by omega) (by omega)]
    show _ = px_X (d + 1) 224 (145, [vR 123, vI m, vI wh, vI S, vI B, vI mo, vI (x6 + ((if ty_bit B g = true then 1 else 0) + th_ct B n (g + 1))), vI G, v8], []) (px_sh L, i, l, r, t)
    rw [← hy, Int.add_assoc]
end THZ
