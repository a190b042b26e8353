/-! The hatch: the queue (115), who can get out (116, 223). -/
/-- a queue of those of a set below g, by end and number -/
def th_Qu (E : Int → Int) (S g : Int) (q : Int → Int) (c : Int) : Prop :=
  (∀ x, 0 ≤ x → x < c → (0 ≤ q x ∧ q x < g) ∧ ty_bit S (q x) = true) ∧ (∀ x y, 0 ≤ x → x < y → y < c → E (q x) < E (q y) ∨ (E (q x) = E (q y) ∧ q x < q y)) ∧ ∀ y, 0 ≤ y → y < g → ty_bit S y = true → ∃ x, 0 ≤ x ∧ x < c ∧ q x = y
theorem th_Qu_s {E : Int → Int} {S g : Int} {q : Int → Int} {c : Int} (h : th_Qu E S g q c) (hb : ¬ ty_bit S g = true) : th_Qu E S (g + 1) q c := by
  obtain ⟨h1, h2, h3⟩ := h
  refine ⟨fun x x0 x1 => ⟨⟨(h1 x x0 x1).1.1, by have := (h1 x x0 x1).1.2; omega⟩, (h1 x x0 x1).2⟩, h2, fun y y0 y1 hy => ?_⟩
  by_cases e : y = g
  · rw [e] at hy
    exact absurd hy hb
  · exact h3 y y0 (by omega) hy
theorem th_Qu_i {E : Int → Int} {S g : Int} {q q' : Int → Int} {c p : Int} (h : th_Qu E S g q c) (hb : ty_bit S g = true) (hg : 0 ≤ g) (hp : 0 ≤ p ∧ p ≤ c) (q1 : ∀ x, 0 ≤ x → x < p → q' x = q x) (q2 : q' p = g) (q3 : ∀ x, p ≤ x → x < c → q' (x + 1) = q x) (e1 : ∀ x, p ≤ x → x < c → E g < E (q x)) (e2 : 0 < p → E (q (p - 1)) ≤ E g) : th_Qu E S (g + 1) q' (c + 1) := by
  obtain ⟨h1, h2, h3⟩ := h
  have val : ∀ x, 0 ≤ x → x < c + 1 → (x < p ∧ q' x = q x) ∨ (x = p ∧ q' x = g) ∨ (p < x ∧ q' x = q (x - 1)) := fun x x0 x1 => by
    by_cases c1 : x < p
    · exact Or.inl ⟨c1, q1 x x0 c1⟩
    · by_cases c2 : x = p
      · exact Or.inr (Or.inl ⟨c2, by rw [c2]; exact q2⟩)
      · refine Or.inr (Or.inr ⟨by omega, ?_⟩)
        have := q3 (x - 1) (by omega) (by omega)
        rw [show x - 1 + 1 = x by omega] at this
        exact this
  have low : ∀ x, 0 ≤ x → x < p → E (q x) < E g ∨ (E (q x) = E g ∧ q x < g) := fun x x0 x1 => by
    have a := e2 (by omega)
    have b := (h1 x x0 (by omega)).1.2
    by_cases ex : x = p - 1
    · rw [ex] at b ⊢
      omega
    · have := h2 x (p - 1) x0 (by omega) (by omega)
      omega
  refine ⟨fun x x0 x1 => ?_, fun x y x0 xy y1 => ?_, fun y y0 y1 hy => ?_⟩
  · rcases val x x0 x1 with ⟨a, b⟩ | ⟨a, b⟩ | ⟨a, b⟩
    · have := h1 x x0 (by omega)
      rw [b]
      exact ⟨⟨this.1.1, by have := this.1.2; omega⟩, this.2⟩
    · rw [b]
      exact ⟨⟨hg, by omega⟩, hb⟩
    · have := h1 (x - 1) (by omega) (by omega)
      rw [b]
      exact ⟨⟨this.1.1, by have := this.1.2; omega⟩, this.2⟩
  · rcases val x x0 (by omega) with ⟨a, b⟩ | ⟨a, b⟩ | ⟨a, b⟩ <;> rcases val y (by omega) y1 with ⟨a', b'⟩ | ⟨a', b'⟩ | ⟨a', b'⟩
    · rw [b, b']
      exact h2 x y x0 xy (by omega)
    · rw [b, b']
      exact low x x0 a
    · rw [b, b']
      have k1 := low x x0 a
      have k2 := e1 (y - 1) (by omega) (by omega)
      omega
    · omega
    · omega
    · rw [b, b']
      have k2 := e1 (y - 1) (by omega) (by omega)
      omega
    · omega
    · omega
    · rw [b, b']
      exact h2 (x - 1) (y - 1) (by omega) (by omega) (by omega)
  · by_cases e : y = g
    · exact ⟨p, hp.1, by omega, by rw [q2, e]⟩
    · obtain ⟨x, x0, x1, x2⟩ := h3 y y0 (by omega) hy
      by_cases c1 : x < p
      · exact ⟨x, x0, by omega, by rw [q1 x x0 c1, x2]⟩
      · exact ⟨x + 1, by omega, by omega, by rw [q3 x (by omega) x1, x2]⟩
section THQ
variable {L t : Nat} {r : MR}
theorem th_115_i (hr : px_hr r) (d : Nat) (l : MI) (S g c : Int) (E q : Int → Int) (hg : 0 ≤ g ∧ g < 10) (hc : 0 ≤ c ∧ c < 10) (hq : ∀ x, 0 ≤ x → x < c → 0 ≤ q x ∧ q x < 10) : ∀ (p : Nat) (i : MI), i 118 = E → (p : Int) ≤ c → (∀ x : Int, 0 ≤ x → x < p → i 119 x = q x) → (∀ x : Int, p ≤ x → x < c → i 119 (x + 1) = q x) → (∀ x : Int, p ≤ x → x < c → E g < E (q x)) →
    ∃ (i1 : MI) (p' : Int), px_X (d + 1) 115 (40, [vR 116, vI S, vI g, vI (p : Int), vI (p : Int)], []) (px_sh L, i, l, r, t) = px_X (d + 1) 115 (117, [vR 116, vI S, vI g, vI p', vI p'], []) (px_sh L, i1, l, r, t) ∧ ty_ch [119] i i1 ∧ (0 ≤ p' ∧ p' ≤ c) ∧ (∀ x : Int, 0 ≤ x → x < p' → i1 119 x = q x) ∧ i1 119 p' = g ∧ (∀ x : Int, p' ≤ x → x < c → i1 119 (x + 1) = q x) ∧ (∀ x : Int, p' ≤ x → x < c → E g < E (q x)) ∧ (0 < p' → E (q (p' - 1)) ≤ E g)
  | 0, i, hE, hp, h1, h2, h3 => by
    refine ⟨px_up i 119 0 g, 0, ?_, ty_ch_up (by decide), ⟨by omega, by omega⟩, fun x x0 x1 => by omega, ty_up_eq, fun x x0 x1 => ?_, fun x x0 x1 => h3 x (by omega) x1, fun h => by omega⟩
    · show px_X (d + 1) 115 (40, [vR 116, vI S, vI g, vI 0, vI 0], []) (px_sh L, i, l, r, t) = _
      rw [b115_40 hr, if_pos (by omega), b115_108 hr, q34i hr _ _ _ (px_s119 L) (Nat.le_of_ble_eq_true rfl) _ _ (by omega), Option.bind_some, px_psh_none]
    · rw [ty_up_j (by omega)]
      exact h2 x (by omega) x1
  | p + 1, i, hE, hp, h1, h2, h3 => by
    have w1 : px_w32 (((p + 1 : Nat) : Int) - 1) = (p : Int) := by rw [ty_w (by omega)]; omega
    have w2 : px_w32 (((p + 1 : Nat) : Int) + (-1)) = (p : Int) := by rw [ty_w (by omega)]; omega
    have hqp := hq (p : Int) (by omega) (by omega)
    have hv := h1 (p : Int) (by omega) (by omega)
    have e71 : px_X (d + 1) 115 (40, [vR 116, vI S, vI g, vI ((p + 1 : Nat) : Int), vI ((p + 1 : Nat) : Int)], []) (px_sh L, i, l, r, t) = px_X (d + 1) 115 (71, [vR 116, vI S, vI g, vI ((p + 1 : Nat) : Int), vI ((p + 1 : Nat) : Int)], [vI (E g), vI (E (q p))]) (px_sh L, i, l, r, t) := by
      rw [b115_40 hr, if_neg (by omega), w1, q33i hr _ _ _ (px_s119 L) (Nat.le_of_ble_eq_true rfl) _ (by omega), Option.bind_some, px_psh_some, hv, b115_60 hr, q33i hr _ _ _ (px_s118 L) (Nat.le_of_ble_eq_true rfl) _ (by omega), Option.bind_some, px_psh_some, b115_63 hr, q33i hr _ _ _ (px_s118 L) (Nat.le_of_ble_eq_true rfl) _ (by omega), Option.bind_some, px_psh_some, hE]
    by_cases c1 : E g < E (q p)
    · obtain ⟨j, hj⟩ : ∃ j : MI, j = px_up i 119 ((p + 1 : Nat) : Int) (q p) := ⟨_, rfl⟩
      have cj : ty_ch [119] i j := by
        rw [hj]
        exact ty_ch_up (by decide)
      obtain ⟨i1, p', r1, k1, k2, k3, k4, k5, k6, k7⟩ := th_115_i hr d l S g c E q hg hc hq p j (by rw [cj 118 (by decide)]; exact hE) (by omega) (fun x x0 x1 => by
        rw [hj, ty_up_j (by omega)]
        exact h1 x x0 (by omega)) (fun x x0 x1 => by
        by_cases ex : x = (p : Int)
        · rw [hj, ex, show (p : Int) + 1 = ((p + 1 : Nat) : Int) by omega, ty_up_eq]
        · rw [hj, ty_up_j (by omega)]
          exact h2 x (by omega) x1) (fun x x0 x1 => by
        by_cases ex : x = (p : Int)
        · rw [ex]
          exact c1
        · exact h3 x (by omega) x1)
      refine ⟨i1, p', ?_, ty_ch_tr cj k1 rfl rfl, k2, k3, k4, k5, k6, k7⟩
      rw [e71, b115_71 hr, if_pos c1, w1, q33i hr _ _ _ (px_s119 L) (Nat.le_of_ble_eq_true rfl) _ (by omega), Option.bind_some, px_psh_some, hv, b115_94 hr, q34i hr _ _ _ (px_s119 L) (Nat.le_of_ble_eq_true rfl) _ _ (by omega), Option.bind_some, px_psh_none, b115_97 hr, w1, w2, ← hj, r1]
    · refine ⟨px_up i 119 ((p + 1 : Nat) : Int) g, ((p + 1 : Nat) : Int), ?_, ty_ch_up (by decide), ⟨by omega, hp⟩, fun x x0 x1 => ?_, ty_up_eq, fun x x0 x1 => ?_, h3, fun _ => ?_⟩
      · rw [e71, b115_71 hr, if_neg c1, b115_108 hr, q34i hr _ _ _ (px_s119 L) (Nat.le_of_ble_eq_true rfl) _ _ (by omega), Option.bind_some, px_psh_none]
      · rw [ty_up_j (by omega)]
        exact h1 x x0 x1
      · rw [ty_up_j (by omega)]
        exact h2 x x0 x1
      · rw [show ((p + 1 : Nat) : Int) - 1 = (p : Int) by omega]
        omega
theorem th_115_n (hr : px_hr r) (d : Nat) (l : MI) (S G : Int) (E : Int → Int) (hS : 0 ≤ S ∧ S < 1024) (hG : 0 ≤ G ∧ G ≤ 10) : ∀ (n : Nat) (i : MI) (g c : Int) (v3 v4 : PV), px_nl v3 → px_nl v4 → i 118 = E → i 4 6 = G → i 116 7 = c → (0 ≤ c ∧ c ≤ g) → th_Qu E S g (i 119) c → 0 ≤ g → g + n = G →
    ∃ (i1 : MI) (c' : Int), px_X (d + 1) 115 (7, [vR 116, vI S, vI g, v3, v4], []) (px_sh L, i, l, r, t) = some (none, (px_sh L, i1, l, r, t)) ∧ ty_ch [116, 119] i i1 ∧ i1 116 7 = c' ∧ (0 ≤ c' ∧ c' ≤ G) ∧ th_Qu E S G (i1 119) c'
  | 0, i, g, c, v3, v4, hn3, hn4, hE, h4, h7, hc, hq, hg, hn => by
    have e : g = G := by omega
    refine ⟨i, c, by rw [b115_7 hr _ _ _ _ _ hn3 hn4, if_pos (by omega)], ty_ch_rf, h7, by omega, ?_⟩
    rw [← e]
    exact hq
  | n + 1, i, g, c, v3, v4, hn3, hn4, hE, h4, h7, hc, hq, hg, hn => by
    have wg : px_w32 (g + 1) = g + 1 := ty_w (by omega)
    have e23 : px_X (d + 1) 115 (7, [vR 116, vI S, vI g, v3, v4], []) (px_sh L, i, l, r, t) = px_X (d + 1) 115 (23, [vR 116, vI S, vI g, v3, v4], [vI (px_bi (0 ≤ g ∧ g < 31 ∧ ty_bit S g = true))]) (px_sh L, i, l, r, t) := by
      rw [b115_7 hr _ _ _ _ _ hn3 hn4, if_neg (by omega), q32 hr _ _ _ _ _ hS.1 (by omega), Option.bind_some, px_psh_some]
    by_cases hb : ty_bit S g = true
    · obtain ⟨i1, p', r1, k1, k2, k3, k4, k5, k6, k7⟩ := th_115_i (L := L) (r := r) (t := t) hr d l S g c E (i 119) ⟨hg, by omega⟩ ⟨hc.1, by omega⟩ (fun x x0 x1 => by
        have := (hq.1 x x0 x1).1
        omega) c.toNat i hE (by omega) (fun _ _ _ => rfl) (fun x x0 x1 => by omega) (fun x x0 x1 => by omega)
      have e1 : i1 116 7 = c := by rw [k1 116 (by decide)]; exact h7
      obtain ⟨j, hj⟩ : ∃ j : MI, j = px_up i1 116 7 (c + 1) := ⟨_, rfl⟩
      have cj : ty_ch [116, 119] i j := by
        rw [hj]
        exact ty_ch_tr k1 (ty_ch_up (S := [116]) (by decide)) rfl rfl
      have rj : j 119 = i1 119 := by rw [hj, ty_up_row (by decide)]
      obtain ⟨i2, c', r2, c2, h72, hc2, hq2⟩ := th_115_n hr d l S G E hS hG n j (g + 1) (c + 1) (vI p') (vI p') (px_nl_I _) (px_nl_I _) (by rw [cj 118 (by decide)]; exact hE) (by rw [cj 4 (by decide)]; exact h4) (by rw [hj, ty_up_eq]) (by omega) (by
        rw [rj]
        exact th_Qu_i hq hb hg k2 k3 k4 k5 k6 k7) (by omega) (by omega)
      refine ⟨i2, c', ?_, ty_ch_tr cj c2 rfl rfl, h72, hc2, hq2⟩
      rw [show ((c.toNat : Nat) : Int) = c by omega] at r1
      rw [e23, b115_23 hr _ _ _ _ _ hn3 hn4, px_bi_T ⟨by omega, by omega, hb⟩, if_neg (by omega), h7, r1, b115_117 hr, e1, wg, ty_w (x := c + 1) (by omega), ← hj, r2]
    · obtain ⟨i2, c', r2, c2, h72, hc2, hq2⟩ := th_115_n hr d l S G E hS hG n i (g + 1) c v3 v4 hn3 hn4 hE h4 h7 (by omega) (th_Qu_s hq hb) (by omega) (by omega)
      refine ⟨i2, c', ?_, c2, h72, hc2, hq2⟩
      rw [e23, b115_23 hr _ _ _ _ _ hn3 hn4, px_bi_F (fun h => hb h.2.2), if_pos rfl, wg, r2]
/-- lineUp -/
theorem th_115 (hr : px_hr r) (d : Nat) (i l : MI) (S G : Int) (hS : 0 ≤ S ∧ S < 1024) (hG : i 4 6 = G ∧ 0 ≤ G ∧ G ≤ 10) :
    ∃ (i1 : MI) (c : Int), px_C (d + 1) 115 [vR 116, vI S] (px_sh L, i, l, r, t) = some (none, (px_sh L, i1, l, r, t)) ∧ ty_ch [116, 119] i i1 ∧ i1 116 7 = c ∧ (0 ≤ c ∧ c ≤ G) ∧ th_Qu (i 118) S G (i1 119) c := by
  obtain ⟨j, hj⟩ : ∃ j : MI, j = px_up i 116 7 0 := ⟨_, rfl⟩
  have cj : ty_ch [116] i j := by
    rw [hj]
    exact ty_ch_up (by decide)
  obtain ⟨i1, c, r1, c1, h7, hc, hq⟩ := th_115_n (L := L) (r := r) (t := t) hr d l S G (i 118) hS hG.2 G.toNat j 0 0 vJ vJ px_nl_J px_nl_J (cj 118 (by decide)) (by rw [cj 4 (by decide)]; exact hG.1) (by rw [hj, ty_up_eq]) (by omega) ⟨fun x x0 x1 => by omega, fun x y x0 xy y1 => by omega, fun y y0 y1 => by omega⟩ (by omega) (by omega)
  refine ⟨i1, c, ?_, ty_ch_tr cj c1 rfl rfl, h7, hc, hq⟩
  rw [e115, b115_0 hr, ← hj, r1]
end THQ
