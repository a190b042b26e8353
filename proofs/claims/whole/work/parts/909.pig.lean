/-! The order holds every guest; the reference's nextGuest (195). -/
theorem ty_pig : ∀ (n : Nat) (f : Nat → Nat), (∀ x, x < n → f x < n) → (∀ x y, x < y → y < n → ¬ f x = f y) → ∀ g, g < n → ∃ x, x < n ∧ f x = g
  | 0, _, _, _, g, hg => absurd hg (Nat.not_lt_zero g)
  | n + 1, f, hb, hi, g, hg => by
    by_cases hx : ∃ x0, x0 < n + 1 ∧ f x0 = n
    · obtain ⟨x0, hx0, hf0⟩ := hx
      have IH := ty_pig n (fun x => if x = x0 then f n else f x) (fun x hx => by
        show (if x = x0 then f n else f x) < n
        by_cases h : x = x0
        · rw [if_pos h]
          have h1 := hi x n hx (by omega)
          have h2 := hb n (by omega)
          rw [h, hf0] at h1
          omega
        · rw [if_neg h]
          have h2 := hb x (by omega)
          have h3 : ¬ f x = n := by
            intro h4
            by_cases h5 : x < x0
            · exact hi x x0 h5 hx0 (h4.trans hf0.symm)
            · exact hi x0 x (by omega) (by omega) (hf0.trans h4.symm)
          omega) (fun x y hxy hy => by
        show ¬ (if x = x0 then f n else f x) = (if y = x0 then f n else f y)
        by_cases h1 : x = x0
        · rw [if_pos h1, if_neg (by omega)]
          intro h
          exact hi y n hy (by omega) h.symm
        · rw [if_neg h1]
          by_cases h2 : y = x0
          · rw [if_pos h2]
            exact hi x n (by omega) (by omega)
          · rw [if_neg h2]
            exact hi x y hxy (by omega))
      by_cases hgn : g = n
      · exact ⟨x0, hx0, hf0.trans hgn.symm⟩
      · obtain ⟨x, hx, hfx⟩ := IH g (by omega)
        have hfx : (if x = x0 then f n else f x) = g := hfx
        by_cases h : x = x0
        · rw [if_pos h] at hfx
          exact ⟨n, by omega, hfx⟩
        · rw [if_neg h] at hfx
          exact ⟨x, by omega, hfx⟩
    · have hb' : ∀ x, x < n + 1 → f x < n := fun x h => by
        have h1 := hb x h
        have h2 : ¬ f x = n := fun e => hx ⟨x, h, e⟩
        omega
      obtain ⟨x, h1, h2⟩ := ty_pig n f (fun x h => hb' x (by omega)) (fun x y h1 h2 => hi x y h1 (by omega)) (f n) (hb' n (by omega))
      exact absurd h2 (hi x n h1 (by omega))
theorem ty_ord_all {i : MI} (hG : ty_HG i) {g : Int} (hg : 0 ≤ g ∧ g < i 124 4) : ∃ x : Int, 0 ≤ x ∧ x < i 124 4 ∧ i 17 x = g := by
  have ho := hG.2.2.2.2
  have h1 := ho.1
  have h2 := ho.2
  have h1' : ∀ x : Int, 0 ≤ x → x < i 124 4 → 0 ≤ i 17 x ∧ i 17 x < i 124 4 := h1
  obtain ⟨x, hx, hfx⟩ := ty_pig (i 124 4).toNat (fun x => (i 17 (x : Int)).toNat) (fun x hx => by
    have := h1' (x : Int) (by omega) (by omega)
    show (i 17 (x : Int)).toNat < _
    omega) (fun x y hxy hy => by
    have hx1 := h1' (x : Int) (by omega) (by omega)
    have hy1 := h1' (y : Int) (by omega) (by omega)
    have hs : i 124 (120 + 14 * i 17 (y : Int)) < i 124 (120 + 14 * i 17 (x : Int)) ∨ (i 124 (120 + 14 * i 17 (y : Int)) = i 124 (120 + 14 * i 17 (x : Int)) ∧ i 17 (x : Int) < i 17 (y : Int)) := h2 (x : Int) (y : Int) (by omega) (by omega) (by omega)
    show ¬ (i 17 (x : Int)).toNat = (i 17 (y : Int)).toNat
    intro he
    have he2 : i 17 (x : Int) = i 17 (y : Int) := by omega
    rw [he2] at hs
    omega) g.toNat (by omega)
  have hx1 := h1' (x : Int) (by omega) (by omega)
  have hfx : (i 17 (x : Int)).toNat = g.toNat := hfx
  exact ⟨(x : Int), by omega, by omega, by omega⟩
/-- v is who is next of those below k: of a set, not seated -/
def ty_ng (A se : Int → Int) (s v k : Int) : Prop := (v = -1 ∧ ∀ g, 0 ≤ g → g < k → ¬ (ty_bit s g = true ∧ se g = 0)) ∨ (0 ≤ v ∧ v < k ∧ ty_bit s v = true ∧ se v = 0 ∧ ∀ g, 0 ≤ g → g < k → ty_bit s g = true → se g = 0 → A (120 + 14 * g) < A (120 + 14 * v) ∨ (A (120 + 14 * g) = A (120 + 14 * v) ∧ v ≤ g))
section TYV
variable {L t : Nat} {r : MR}
theorem ty_next_n (hr : px_hr r) (d : Nat) (i l : MI) (s : Int) (hs : 0 ≤ s ∧ s < 1024) (h10 : i 124 4 ≤ 10) : ∀ (n : Nat) (v k : Int), 0 ≤ k → k + n = i 124 4 → ty_ng (i 124) (i 144) s v k → ∃ v', px_X (d + 1) 195 (4, [vR 123, vI s, vI v, vI k], []) (px_sh L, i, l, r, t) = some (some (vI v'), (px_sh L, i, l, r, t)) ∧ ty_ng (i 124) (i 144) s v' (i 124 4)
  | 0, v, k, h0, hk, hv => by
    refine ⟨v, ?_, ?_⟩
    · rw [b195_4 hr _ _ _ _ _ _ (by omega), if_pos (by omega)]
    · rw [show i 124 4 = k by omega]
      exact hv
  | n + 1, v, k, h0, hk, hv => by
    have w1 : px_w32 (k + 1) = k + 1 := ty_w (by omega)
    have hbit := ty_bit_1 (n := s.toNat) (k := k.toNat) (by omega) (by omega)
    rw [Int.toNat_of_nonneg hs.1, Int.toNat_of_nonneg h0] at hbit
    have hb := b195_4 (L := L) (t := t) hr d i l s v k (by omega)
    rw [if_neg (by omega), w1] at hb
    have skip : ¬ (ty_bit s k = true ∧ i 144 k = 0) → ty_ng (i 124) (i 144) s v (k + 1) := fun hn => by
      rcases hv with ⟨h1, h2⟩ | ⟨h1, h2, h3, h4, h5⟩
      · refine Or.inl ⟨h1, fun g g0 g1 => ?_⟩
        by_cases hg : g = k
        · rw [hg]; exact hn
        · exact h2 g g0 (by omega)
      · refine Or.inr ⟨h1, by omega, h3, h4, fun g g0 g1 g2 g3 => ?_⟩
        by_cases hg : g = k
        · rw [hg] at g2 g3
          exact absurd ⟨g2, g3⟩ hn
        · exact h5 g g0 (by omega) g2 g3
    by_cases hx : px_and (px_shr s k) 1 = 1
    · rw [if_pos hx] at hb
      have hbk := hbit.mp hx
      by_cases he : i 144 k = 0
      · rw [if_pos he] at hb
        by_cases hv1 : v = -1
        · rw [if_pos hv1] at hb
          rw [hb]
          refine ty_next_n hr d i l s hs h10 n k (k + 1) (by omega) (by omega) (Or.inr ⟨h0, by omega, hbk, he, fun g g0 g1 g2 g3 => ?_⟩)
          rcases hv with ⟨h1, h2⟩ | ⟨h1, h2, h3, h4, h5⟩
          · by_cases hg : g = k
            · rw [hg]
              exact Or.inr ⟨rfl, by omega⟩
            · exact absurd ⟨g2, g3⟩ (h2 g g0 (by omega))
          · omega
        · rw [if_neg hv1] at hb
          rcases hv with ⟨h1, h2⟩ | ⟨h1, h2, h3, h4, h5⟩
          · exact absurd h1 hv1
          · rw [hb, q146 hr _ _ _ _ _ (by omega) (by omega), Option.bind_some, px_psh_some, b195_43 hr, q146 hr _ _ _ _ _ (by omega) (by omega), Option.bind_some, px_psh_some, b195_49 hr, show 120 + 14 * k + 0 = 120 + 14 * k by omega, show 120 + 14 * v + 0 = 120 + 14 * v by omega, w1]
            by_cases hlt : i 124 (120 + 14 * k) ≤ i 124 (120 + 14 * v)
            · rw [if_pos hlt]
              refine ty_next_n hr d i l s hs h10 n v (k + 1) (by omega) (by omega) (Or.inr ⟨h1, by omega, h3, h4, fun g g0 g1 g2 g3 => ?_⟩)
              by_cases hg : g = k
              · rw [hg]
                omega
              · exact h5 g g0 (by omega) g2 g3
            · rw [if_neg hlt]
              refine ty_next_n hr d i l s hs h10 n k (k + 1) (by omega) (by omega) (Or.inr ⟨h0, by omega, hbk, he, fun g g0 g1 g2 g3 => ?_⟩)
              by_cases hg : g = k
              · rw [hg]
                exact Or.inr ⟨rfl, by omega⟩
              · have := h5 g g0 (by omega) g2 g3
                omega
      · rw [if_neg he] at hb
        rw [hb]
        exact ty_next_n hr d i l s hs h10 n v (k + 1) (by omega) (by omega) (skip (fun h => he h.2))
    · rw [if_neg hx] at hb
      rw [hb]
      exact ty_next_n hr d i l s hs h10 n v (k + 1) (by omega) (by omega) (skip (fun h => hx (hbit.mpr h.1)))
/-- nextGuest -/
theorem q195 (hr : px_hr r) (d : Nat) (i l : MI) (s : Int) (hs : 0 ≤ s ∧ s < 1024) (h10 : 0 ≤ i 124 4 ∧ i 124 4 ≤ 10) : ∃ v, px_C (d + 1) 195 [vR 123, vI s] (px_sh L, i, l, r, t) = some (some (vI v), (px_sh L, i, l, r, t)) ∧ ty_ng (i 124) (i 144) s v (i 124 4) := by
  obtain ⟨v, r1, h1⟩ := ty_next_n (L := L) (t := t) hr d i l s hs h10.2 (i 124 4).toNat (-1) 0 (by omega) (by omega) (Or.inl ⟨rfl, fun g g0 g1 => by omega⟩)
  exact ⟨v, by rw [e195, b195_0 hr, r1], h1⟩
theorem bb196_73 (hr : px_hr r) (d : Nat) (i l : MI) (x1 : Int) (x2 : Int) (x3 : Int) (x4 : Int) (x5 : Int) (x7 : Int) {v8 : PV} (h1 : (¬ ((i 124 3) ≤ x7)) → 0 ≤ x7 ∧ x7 < 8) : px_X (d + 1) 196 (73, [vR 123, vI x1, vI x2, vI x3, vI x4, vL x5, vJ, vI x7, v8, vJ], []) (px_sh L, i, l, r, t) = if (i 124 3) ≤ x7 then some (some (vI x4), (px_sh L, i, l, r, t)) else if (i 143 x7) ≤ 0 then px_X (d + 1) 196 (73, [vR 123, vI x1, vI x2, vI x3, vI x4, vL x5, vJ, vI (px_w32 (x7 + 1)), v8, vJ], []) (px_sh L, i, l, r, t) else (px_C d 194 [vR 123, vI x7] (px_sh L, i, l, r, t)).bind (fun q => px_X (d + 1) 196 (px_psh (106, [vR 123, vI x1, vI x2, vI x3, vI x4, vL x5, vJ, vI x7, v8, vJ], [vI 7, vR 140]) q.1) q.2) := ((xs_ild k196_73 rfl).trans ((xs_aldn k196_75 rfl).trans ((xs_get4 k196_76 (px_s123 L) (Nat.le_of_ble_eq_true rfl) (px_r123_3 hr)).trans ((xs_ic k196_79 (by omega)).trans ((xs_iald k196_80 (px_s124 L) (by omega)).trans ((xs_jge k196_81).trans (px_ite (fun c1 => ((xs_ild k196_187 rfl).trans (xs_ri k196_189 rfl))) (fun c1 => ((xs_aldn k196_84 rfl).trans ((xs_get4 k196_85 (px_s123 L) (Nat.le_of_ble_eq_true rfl) (px_r123_39 hr)).trans ((xs_ild k196_88 rfl).trans ((xs_iald k196_90 (px_s143 L) (h1 c1)).trans ((xs_ile k196_91).trans (px_ite (fun c2 => ((xs_iinc k196_181 rfl (by omega) (ls' := [vR 123, vI x1, vI x2, vI x3, vI x4, vL x5, vJ, vI (px_w32 (x7 + 1)), v8, vJ]) rfl).trans (xs_goto k196_184))) (fun c2 => ((xs_aldn k196_94 rfl).trans ((xs_get4 k196_95 (px_s123 L) (Nat.le_of_ble_eq_true rfl) (px_r123_36 hr)).trans ((xs_bi k196_98 (by omega)).trans ((xs_aldn k196_100 rfl).trans ((xs_ild k196_101 rfl).trans (xs_callvB k196_103 (as := [vI x7]) rfl rfl (Nat.le_of_ble_eq_true rfl) (Nat.le_of_ble_eq_true rfl) (Nat.le_of_ble_eq_true rfl) (px_s123 L) (Nat.le_of_ble_eq_true rfl))))))))))))))))))))))
theorem bb196_106 (hr : px_hr r) (d : Nat) (i l : MI) (x1 : Int) (x2 : Int) (x3 : Int) (x4 : Int) (x5 : Int) (x7 : Int) {v8 : PV} (xs0 : Int) (xs1 : Int) (h1 : 0 ≤ xs1 ∧ xs1 < 15) (h2 : 0 ≤ (px_w32 ((px_w32 (100 + (px_w32 (2 * x7)))) + 1)) ∧ (px_w32 ((px_w32 (100 + (px_w32 (2 * x7)))) + 1)) < 820) (h3 : 0 ≤ x7 ∧ x7 < 8) : px_X (d + 1) 196 (106, [vR 123, vI x1, vI x2, vI x3, vI x4, vL x5, vJ, vI x7, v8, vJ], [vI xs0, vI xs1, vR 140]) (px_sh L, i, l, r, t) = (px_C d 189 [vR 123, vI 4] (px_sh L, (px_up (px_up i 140 xs1 xs0) 140 9 (px_w32 ((i 124 (px_w32 ((px_w32 (100 + (px_w32 (2 * x7)))) + 1))) - (i 143 x7)))), l, r, t)).bind (fun q => px_X (d + 1) 196 (px_psh (141, [vR 123, vI x1, vI x2, vI x3, vI x4, vL x5, vJ, vI x7, v8, vJ], []) q.1) q.2) := ((xs_iast k196_106 (px_s140 L) (h1) (Nat.le_of_ble_eq_true rfl)).trans ((xs_aldn k196_107 rfl).trans ((xs_get4 k196_108 (px_s123 L) (Nat.le_of_ble_eq_true rfl) (px_r123_36 hr)).trans ((xs_bi k196_111 (by omega)).trans ((xs_aldn k196_113 rfl).trans ((xs_get4 k196_114 (px_s123 L) (Nat.le_of_ble_eq_true rfl) (px_r123_3 hr)).trans ((xs_bi k196_117 (by omega)).trans ((xs_ic k196_119 (by omega)).trans ((xs_ild k196_120 rfl).trans ((xs_imul k196_122).trans ((xs_iadd k196_123).trans ((xs_ic k196_124 (by omega)).trans ((xs_iadd k196_125).trans ((xs_iald k196_126 (px_s124 L) (h2)).trans ((xs_aldn k196_127 rfl).trans ((xs_get4 k196_128 (px_s123 L) (Nat.le_of_ble_eq_true rfl) (px_r123_39 hr)).trans ((xs_ild k196_131 rfl).trans ((xs_iald k196_133 (px_s143 L) (h3)).trans ((xs_isub k196_134).trans ((xs_iast k196_135 (px_s140 L) (by omega) (Nat.le_of_ble_eq_true rfl)).trans ((xs_aldn k196_136 rfl).trans ((xs_ic k196_137 (by omega)).trans (xs_callvB k196_138 (as := [vI 4]) rfl rfl (Nat.le_of_ble_eq_true rfl) (Nat.le_of_ble_eq_true rfl) (Nat.le_of_ble_eq_true rfl) (px_s123 L) (Nat.le_of_ble_eq_true rfl))))))))))))))))))))))))
theorem bb196_141 (hr : px_hr r) (d : Nat) (i l : MI) (x1 : Int) (x2 : Int) (x3 : Int) (x4 : Int) (x5 : Int) (x7 : Int) {v8 : PV} (xs0 : Int) : px_X (d + 1) 196 (141, [vR 123, vI x1, vI x2, vI x3, vI x4, vL x5, vJ, vI x7, v8, vJ], [vI xs0]) (px_sh L, i, l, r, t) = if xs0 = 0 then (px_C d 188 [vR 123, vI 1, vL (i 140 7)] (px_sh L, i, l, r, t)).bind (fun q => px_X (d + 1) 196 (px_psh (157, [vR 123, vI x1, vI x2, vI x3, vI x4, vL x5, vJ, vI x7, v8, vJ], []) q.1) q.2) else px_X (d + 1) 196 (73, [vR 123, vI x1, vI x2, vI x3, vI x4, vL x5, vJ, vI (px_w32 (x7 + 1)), v8, vJ], []) (px_sh L, i, l, r, t) := ((xs_ine k196_141).trans (px_ite (fun c1 => ((xs_aldn k196_144 rfl).trans ((xs_ic k196_145 (by omega)).trans ((xs_aldn k196_146 rfl).trans ((xs_get4 k196_147 (px_s123 L) (Nat.le_of_ble_eq_true rfl) (px_r123_36 hr)).trans ((xs_bi k196_150 (by omega)).trans ((xs_iald k196_152 (px_s140 L) (by omega)).trans ((xs_i2l k196_153).trans (xs_callvB k196_154 (as := [vI 1, vL (i 140 7)]) rfl rfl (Nat.le_of_ble_eq_true rfl) (Nat.le_of_ble_eq_true rfl) (Nat.le_of_ble_eq_true rfl) (px_s123 L) (Nat.le_of_ble_eq_true rfl)))))))))) (fun c1 => ((xs_iinc k196_181 rfl (by omega) (ls' := [vR 123, vI x1, vI x2, vI x3, vI x4, vL x5, vJ, vI (px_w32 (x7 + 1)), v8, vJ]) rfl).trans (xs_goto k196_184)))))
theorem bb196_157 (hr : px_hr r) (d : Nat) (i l : MI) (x1 : Int) (x2 : Int) (x3 : Int) (x4 : Int) (x5 : Int) (x7 : Int) {v8 : PV} (xs0 : Int) : px_X d 196 (157, [vR 123, vI x1, vI x2, vI x3, vI x4, vL x5, vJ, vI x7, v8, vJ], [vL xs0]) (px_sh L, i, l, r, t) = if x4 = (-1) then px_X d 196 (73, [vR 123, vI x1, vI x2, vI x3, vI x7, vL xs0, vJ, vI (px_w32 (x7 + 1)), vL xs0, vJ], []) (px_sh L, i, l, r, t) else if (px_cmp xs0 x5) ≤ 0 then px_X d 196 (73, [vR 123, vI x1, vI x2, vI x3, vI x4, vL x5, vJ, vI (px_w32 (x7 + 1)), vL xs0, vJ], []) (px_sh L, i, l, r, t) else px_X d 196 (73, [vR 123, vI x1, vI x2, vI x3, vI x7, vL xs0, vJ, vI (px_w32 (x7 + 1)), vL xs0, vJ], []) (px_sh L, i, l, r, t) := ((xs_lst k196_157 (Nat.le_of_ble_eq_true rfl) (ls' := [vR 123, vI x1, vI x2, vI x3, vI x4, vL x5, vJ, vI x7, vL xs0, vJ]) rfl).trans ((xs_ild k196_159 rfl).trans ((xs_ic k196_161 (by omega)).trans ((xs_jeq k196_162).trans (px_ite (fun c1 => ((xs_ild k196_173 rfl).trans ((xs_ist k196_175 (Nat.le_of_ble_eq_true rfl) (ls' := [vR 123, vI x1, vI x2, vI x3, vI x7, vL x5, vJ, vI x7, vL xs0, vJ]) rfl).trans ((xs_lld k196_177 rfl).trans ((xs_lst k196_179 (Nat.le_of_ble_eq_true rfl) (ls' := [vR 123, vI x1, vI x2, vI x3, vI x7, vL xs0, vJ, vI x7, vL xs0, vJ]) rfl).trans ((xs_iinc k196_181 rfl (by omega) (ls' := [vR 123, vI x1, vI x2, vI x3, vI x7, vL xs0, vJ, vI (px_w32 (x7 + 1)), vL xs0, vJ]) rfl).trans (xs_goto k196_184))))))) (fun c1 => ((xs_lld k196_165 rfl).trans ((xs_lld k196_167 rfl).trans ((xs_lcmp k196_169).trans ((xs_ile k196_170).trans (px_ite (fun c2 => ((xs_iinc k196_181 rfl (by omega) (ls' := [vR 123, vI x1, vI x2, vI x3, vI x4, vL x5, vJ, vI (px_w32 (x7 + 1)), vL xs0, vJ]) rfl).trans (xs_goto k196_184))) (fun c2 => ((xs_ild k196_173 rfl).trans ((xs_ist k196_175 (Nat.le_of_ble_eq_true rfl) (ls' := [vR 123, vI x1, vI x2, vI x3, vI x7, vL x5, vJ, vI x7, vL xs0, vJ]) rfl).trans ((xs_lld k196_177 rfl).trans ((xs_lst k196_179 (Nat.le_of_ble_eq_true rfl) (ls' := [vR 123, vI x1, vI x2, vI x3, vI x7, vL xs0, vJ, vI x7, vL xs0, vJ]) rfl).trans ((xs_iinc k196_181 rfl (by omega) (ls' := [vR 123, vI x1, vI x2, vI x3, vI x7, vL xs0, vJ, vI (px_w32 (x7 + 1)), vL xs0, vJ]) rfl).trans (xs_goto k196_184))))))))))))))))))
end TYV
