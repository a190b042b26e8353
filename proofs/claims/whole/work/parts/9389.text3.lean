/-! text: the call. -/
/-- the coupling, and what the class reads besides -/
def tz_CR (n : Nat) (i l : MI) : Prop := ty_CR n i l ∧ ∀ x : Int, 0 ≤ x → x < 6 → i 1 x = tz_alw x
theorem tz_sh3 (L : Nat) : 3 ≤ (px_sh L).length := by
  have : (px_sh L).length = 159 := rfl
  omega
theorem tz_keep {d m : Nat} {as : List PV} {L t : Nat} {r : MR} {i l i1 l1 : MI} {v : Option PV} (h : px_C d m as (px_sh L, i, l, r, t) = some (v, (px_sh L, i1, l1, r, t))) : ∀ k, k < 3 → i1 k = i k := (tz_X_kp h (tz_sh3 L)).2
theorem tz_lift {m1 m2 : Nat} {as : List PV} (h : ty_ok ty_CR m1 m2 as) : ty_ok tz_CR m1 m2 as := by
  intro L t r hr n d i l hn hc
  obtain ⟨v, i1, l1, i2, l2, e1, e2, e3, e4, e5⟩ := h L t r hr n d i l hn hc.1
  refine ⟨v, i1, l1, i2, l2, e1, e2, ⟨e3, fun x x0 x1 => ?_⟩, e4, e5⟩
  rw [tz_keep e2 1 (by decide), tz_keep e1 1 (by decide)]
  exact hc.2 x x0 x1
theorem tz_CR_mk {n : Nat} {i j l : MI} (hc : ty_CR n i l) (h57 : ∀ k : Nat, k < 58 → k ≠ 4 → j k = i k) (h4 : ∀ x : Int, x ≠ 7 → j 4 x = i 4 x) (h124 : ∀ x : Int, x ≠ 5 → j 124 x = i 124 x) (h47 : j 4 7 = j 124 5 ∧ i 124 5 ≤ j 124 5 ∧ j 124 5 ≤ 6) (h125 : j 125 = i 125) (h0 : j 123 0 = i 123 0) (h1 : j 123 1 = i 123 1) (h2 : j 123 2 = i 123 2) (hT : ty_T j) (hY : ty_Y (n + 1) j) : ty_CR (n + 1) j l := by
  obtain ⟨hD, hh0, h27, -, -⟩ := hc
  have hdim := ty_D_2 hD
  obtain ⟨hb, hs, hp, hg, ho, hh, hl, hnn⟩ := hh0
  have b3 := hs.2.2.1
  have b4 := hs.2.2.2.1
  have b5 := hs.2.2.2.2.1
  have b7 := hs.2.2.2.2.2.2.1
  have b8 := hs.2.2.2.2.2.2.2
  have hA : ∀ x : Int, x ≠ 5 → j 124 x = i 124 x := h124
  have r : ∀ k : Nat, 5 ≤ k → k < 58 → j k = i k := fun k k0 k1 => h57 k k1 (by omega)
  refine ⟨ty_D_c (i := i) (l := l) h0 h1 h2 (by rw [r 19 (by omega) (by omega)]) (by rw [r 19 (by omega) (by omega)]) (by rw [r 19 (by omega) (by omega)]) rfl rfl rfl (ty_gs_fr (fun k k0 k1 => r k (by omega) k1)) hD,
    ⟨ty_Hb_c (i := i) (l := l) (by rw [r _ (by omega) (by omega)]) rfl h2 (r _ (by omega) (by omega)) (by omega) (fun x hx => hA x (by omega)) hb, ?_, ty_Hp_c (r _ (by omega) (by omega)) (r _ (by omega) (by omega)) b3.2.2 (fun x hx => hA x (by omega)) hp,
      ty_Hg_c (fun k hk => r _ (by omega) (by omega)) b4.2.2 (fun x hx => hA x (by omega)) hg, ty_Ho_c (r _ (by omega) (by omega)) b4.2.2 (fun x hx => hA x (by omega)) ho, ty_Hh_c (r _ (by omega) (by omega)) b7.2.2 (fun x hx => hA x (by omega)) hh,
      ty_Hl_c (r _ (by omega) (by omega)) (r _ (by omega) (by omega)) (r _ (by omega) (by omega)) b8.2.2 (by rw [hA 4 (by omega)]; omega) (by rw [hA 3 (by omega)]; omega) (fun x hx => hA x (by omega)) hl,
      ty_Hn_c (r _ (by omega) (by omega)) (r _ (by omega) (by omega)) (r _ (by omega) (by omega)) (r _ (by omega) (by omega)) (r _ (by omega) (by omega)) (fun x hx => hA x (by omega)) hnn⟩,
    ty_H_same 27 125 (i := i) (l := l) (fun k k0 k1 => r k (by omega) (by omega)) h125 h2 rfl (by omega) h27, hT, hY⟩
  obtain ⟨s1, s2, s3, s4, s5, s6, s7, s8⟩ := hs
  unfold ty_Hs
  have e4 : ∀ x : Int, x ≠ 7 → j (4 + 0) x = i (4 + 0) x := h4
  rw [e4 3 (by omega), e4 4 (by omega), e4 5 (by omega), e4 6 (by omega), e4 8 (by omega), e4 9 (by omega), show j (5 + 0) 0 = i (5 + 0) 0 by rw [r (5 + 0) (by omega) (by omega)], hA 1 (by omega), hA 2 (by omega), hA 3 (by omega), hA 4 (by omega), hA 6 (by omega), hA 7 (by omega), hA 8 (by omega)]
  exact ⟨s1, s2, s3, s4, ⟨h47.1, by omega, h47.2.2⟩, ⟨s6.1, s6.2.1, by omega⟩, s7, s8⟩
theorem tz_lev_same {i j : MI} {m : Int} (h4 : ∀ x : Int, x ≠ 7 → j 4 x = i 4 x) (hb : -1 ≤ i 4 8) (ht : ∀ k : Nat, ¬ i 4 8 = -1 → 73 + 5 * (i 4 8).toNat ≤ k → k < 78 + 5 * (i 4 8).toNat → j k = i k) : ty_lev j m = ty_lev i m := by
  by_cases h : i 4 8 = -1
  · have h' : j 4 8 = -1 := by rw [h4 8 (by omega)]; exact h
    unfold ty_lev ty_says
    rw [if_pos h, if_pos h']
  · exact ty_lev_c (h4 3 (by omega)) (h4 4 (by omega)) (h4 8 (by omega)) (fun k k0 k1 => ht k h k0 k1)
theorem tz_hD_b {f g : Int → Int} : ∀ {D : List (Int × List Int)}, tz_hD f g D → ∀ x : Int, 0 ≤ x → x < D.length → 0 ≤ g x ∧ g x ≤ ((tz_fl D).length : Int)
  | [], _, x, x0, x1 => absurd x1 (by rw [List.length_nil]; omega)
  | (a, C) :: D, h, x, x0, x1 => by
    have hl : (tz_fl ((a, C) :: D)).length = 1 + C.length + (tz_fl D).length := by
      show (-1 :: C ++ tz_fl D).length = _
      rw [List.length_append, List.length_cons]
      omega
    rw [List.length_cons] at x1
    by_cases e : x = D.length
    · rw [e, h.1.2, hl]
      omega
    · have := tz_hD_b h.2 x x0 (by omega)
      rw [hl]
      omega
theorem tz_hQ_b {f g h : Int → Int} : ∀ {D : List (Int × List Int)}, tz_hQ f g h D → ∀ x : Nat, x < D.length → h (x : Int) ≤ ((tz_gl D).length : Int)
  | [], _, x, x1 => absurd x1 (by rw [List.length_nil]; omega)
  | (a, C) :: D, hq, x, x1 => by
    have hl : (tz_gl ((a, C) :: D)).length = C.length + (tz_gl D).length := by
      show (C ++ tz_gl D).length = _
      rw [List.length_append]
    rw [List.length_cons] at x1
    by_cases e : x = D.length
    · rw [e, hq.1.2.2, hl, List.length_append]
      exact Int.le_refl _
    · have := tz_hQ_b hq.2 x (by omega)
      rw [hl]
      omega
/-- a text that is told anew -/
theorem tz_tx_new {j : MI} {q M G : Nat} {cf ck cs ce nw na no nv : Int → Int} (hq : q < 6) (hM : M ≤ 10) (hG : G ≤ 300) (h1 : j (73 + 5 * q) 1 = (M : Int)) (h127 : j 127 (q : Int) = (M : Int)) (hcf : ∀ x : Int, 0 ≤ x → x < 300 → j (74 + 5 * q) x = cf x) (hck : ∀ x : Int, 0 ≤ x → x < 10 → j (75 + 5 * q) x = ck x ∧ j (76 + 5 * q) x = cs x ∧ j (77 + 5 * q) x = ce x)
    (h128 : ∀ x : Int, 0 ≤ x → x < (M : Int) → j 128 (10 * q + x) = nw x ∧ j 129 (10 * q + x) = 400 * q + na x) (h130 : ∀ x : Int, 0 ≤ x → x < ((G + M : Nat) : Int) → j 130 (400 * q + x) = no x ∧ j 131 (400 * q + x) = nv x) (hce : ∀ x : Nat, x < M → ce (x : Int) ≤ (G : Int))
    (hk : ∀ k : Nat, k < M → tz_kth cf ck cs ce nw na no nv k) (hu : ∀ k k' : Nat, k < M → k' < M → ck (k : Int) = ck (k' : Int) → ck (k : Int) < 4 → k = k') : ty_tx j q := by
  refine ⟨⟨by rw [h1, h127], by rw [h127]; omega, by rw [h127]; omega⟩, fun k k0 k1 => ?_, fun k k' k0 k1 k0' k1' he h4 => ?_⟩
  · rw [h127] at k1
    obtain ⟨kn, rfl⟩ : ∃ kn : Nat, k = (kn : Int) := ⟨k.toNat, by omega⟩
    obtain ⟨a, C, s, e, ⟨a1, a2, a3, a4⟩, ⟨b1, b2, b3, b4⟩, c1, c2, c3, c4⟩ := hk kn (by omega)
    have hce1 := hce kn (by omega)
    have hcks := hck (kn : Int) (by omega) (by omega)
    have h28 := h128 (kn : Int) (by omega) (by omega)
    rw [b2] at hce1
    have e75 : j (75 + 5 * q) (kn : Int) = a := by rw [hcks.1, a3]
    have e76 : j (76 + 5 * q) (kn : Int) = (s : Int) := by rw [hcks.2.1, b1]
    have e77 : j (77 + 5 * q) (kn : Int) = ((s + C.length : Nat) : Int) := by rw [hcks.2.2, b2]
    have e129 : j 129 (10 * q + kn) = 400 * q + (e : Int) := by rw [h28.2, b3]
    have hlen : (((s + C.length : Nat) : Int) - (s : Int)) = (C.length : Int) := by omega
    unfold ty_cl
    rw [e75, e76, e77, e129, hlen]
    refine ⟨⟨a1, a2, by rw [h28.1, a4]⟩, ⟨by omega, by omega, by omega⟩, ⟨by omega, by omega⟩, fun x x0 x1 => ?_, ?_, ?_⟩
    · obtain ⟨xn, rfl⟩ : ∃ xn : Nat, x = (xn : Int) := ⟨x.toNat, by omega⟩
      have hx : xn < C.length := by omega
      obtain ⟨g1, g2⟩ := c1 xn hx
      have hmem : C.reverse[xn]'(by rw [List.length_reverse]; exact hx) ∈ C := List.mem_reverse.mp (List.getElem_mem _)
      have hmc := c4 _ hmem
      have h30 := h130 ((e + xn : Nat) : Int) (by omega) (by omega)
      have e1 : (s : Int) + (xn : Int) = ((s + xn : Nat) : Int) := by omega
      have e2 : 400 * (q : Int) + (e : Int) + (xn : Int) = 400 * (q : Int) + ((e + xn : Nat) : Int) := by omega
      rw [e1, e2, hcf _ (by omega) (by omega), g1, h30.1, h30.2]
      refine ⟨?_, hmc.2⟩
      rcases g2 with ⟨g3, -⟩ | ⟨-, g3⟩
      · have := hmc.1
        omega
      · exact g3
    · have h30 := h130 ((e + C.length : Nat) : Int) (by omega) (by omega)
      have e2 : 400 * (q : Int) + (e : Int) + (C.length : Int) = 400 * (q : Int) + ((e + C.length : Nat) : Int) := by omega
      rw [e2, h30.1, c2]
    · have hcodes : ty_codes j (73 + 5 * q) (kn : Int) = C.reverse := by
        unfold ty_codes
        have e4 : j (73 + 5 * q + 4) (kn : Int) = ((s + C.length : Nat) : Int) := by
          rw [show 73 + 5 * q + 4 = 77 + 5 * q by omega]
          exact e77
        have e3 : j (73 + 5 * q + 3) (kn : Int) = (s : Int) := by
          rw [show 73 + 5 * q + 3 = 76 + 5 * q by omega]
          exact e76
        rw [e4, e3, hlen, Int.toNat_natCast]
        apply List.ext_getElem
        · rw [List.length_map, List.length_range, List.length_reverse]
        · intro x hx1 hx2
          rw [List.length_map, List.length_range] at hx1
          rw [List.getElem_map, List.getElem_range, show 73 + 5 * q + 1 = 74 + 5 * q by omega, show (s : Int) + (x : Int) = ((s + x : Nat) : Int) by omega, hcf _ (by omega) (by omega), (c1 x hx1).1]
      rw [hcodes]
      exact c3
  · rw [h127] at k1 k1'
    obtain ⟨kn, rfl⟩ : ∃ kn : Nat, k = (kn : Int) := ⟨k.toNat, by omega⟩
    obtain ⟨kn', rfl⟩ : ∃ kn' : Nat, k' = (kn' : Int) := ⟨k'.toNat, by omega⟩
    have g1 := (hck (kn : Int) (by omega) (by omega)).1
    have g2 := (hck (kn' : Int) (by omega) (by omega)).1
    rw [g1, g2] at he
    rw [g1] at h4
    have := hu kn kn' (by omega) (by omega) he h4
    rw [this]
/-- a text told before -/
theorem tz_tx_old {i j : MI} {q : Nat} (h0 : ∀ k, 73 + 5 * q ≤ k → k < 78 + 5 * q → j k = i k) (h1 : j 127 (q : Int) = i 127 (q : Int)) (h2 : ∀ x : Int, 10 * q ≤ x → x < 10 * q + 10 → j 128 x = i 128 x ∧ j 129 x = i 129 x) (h3 : ∀ x : Int, 400 * q ≤ x → x < 400 * q + 400 → j 130 x = i 130 x ∧ j 131 x = i 131 x) (h : ty_tx i q) : ty_tx j q := by
  have e0 := h0 (73 + 5 * q) (by omega) (by omega)
  have e1 := h0 (74 + 5 * q) (by omega) (by omega)
  have e2 := h0 (75 + 5 * q) (by omega) (by omega)
  have e3 := h0 (76 + 5 * q) (by omega) (by omega)
  have e4 := h0 (77 + 5 * q) (by omega) (by omega)
  obtain ⟨t1, t2, t3⟩ := h
  have ec : ∀ k, ty_codes j (73 + 5 * q) k = ty_codes i (73 + 5 * q) k := fun k => ty_codes_c (h0 _ (by omega) (by omega)) (h0 _ (by omega) (by omega)) (h0 _ (by omega) (by omega))
  refine ⟨by rw [e0, h1]; exact t1, fun k k0 k1 => ?_, by rw [h1, e2]; exact t3⟩
  rw [h1] at k1
  obtain ⟨c1, c2, c3, c4, c5, c6⟩ := t2 k k0 k1
  have g2 := h2 (10 * q + k) (by omega) (by omega)
  unfold ty_cl
  rw [e2, e3, e4, g2.1, g2.2, ec k, e1]
  refine ⟨c1, c2, c3, fun x x0 x1 => ?_, ?_, c6⟩
  · have g3 := h3 (i 129 (10 * q + k) + x) (by omega) (by omega)
    rw [g3.1, g3.2]
    exact c4 x x0 x1
  · rw [(h3 _ (by omega) (by omega)).1]
    exact c5
/-- text -/
theorem ok_text : ty_ok tz_CR 9 180 [] := by
  intro L t r hr n d i l hn hcc
  obtain ⟨hc, hal⟩ := hcc
  have hc' := ty_CR_mono hc
  have hT := hc.2.2.2.1
  have hY := hc.2.2.2.2
  have hs := hc.2.1.2.1
  have b5 := hs.2.2.2.2.1
  have b6 := hs.2.2.2.2.2.1
  have e47 : i 4 7 = i 124 5 := b5.1
  have e48 : i 4 8 = i 124 6 := b6.1
  show ∃ (v : Int) (i1 l1 i2 l2 : MI), px_C (d + 15 + 23 + 1 + 1) 9 [vR 3] _ = _ ∧ px_C (d + 34 + 5 + 1) 180 [vR 123] _ = _ ∧ _
  by_cases h6 : i 124 5 = 6
  · refine ⟨-1, i, l, i, l, ?_, ?_, ⟨hc', hal⟩, rfl, rfl⟩
    · rw [e9, b9_0 hr, e64, b64_0 hr _ _ _ _ (by intros; omega), if_neg (by omega), if_pos (by omega), Option.bind_some, px_psh_some, b9_14_N hr]
    · rw [e180, b180_0 hr, if_pos h6]
  · obtain ⟨q, hq⟩ : ∃ q : Nat, i 124 5 = (q : Int) := ⟨(i 124 5).toNat, by omega⟩
    have hq6 : q < 6 := by omega
    obtain ⟨⟨t1, t2, t3⟩, tb, t4, t5, t6⟩ := hT
    obtain ⟨N, hN⟩ : ∃ N : Nat, i 123 6 = (N : Int) := ⟨(i 123 6).toNat, by omega⟩
    have hN3 : N ≤ 300 := by omega
    have htp : tz_tp (i 64) N i := ⟨by rw [t1, hN], hN3, fun x _ => rfl⟩
    have hTb : ∀ x : Nat, x < N → 0 ≤ i 64 (x : Int) ∧ i 64 (x : Int) ≤ 255 := fun x hx => by
      have := tb (x : Int) (by omega) (by omega)
      omega
    have h126 : ∀ x : Int, 0 ≤ x → x < (N : Int) → i 126 x = px_i2b (i 64 x) := fun x x0 x1 => (tb x x0 (by omega)).2.2
    obtain ⟨m, i1, r1, ⟨m1, m2, m3⟩, ⟨fr, f2⟩, out⟩ := tz_92 (L := L) (r := r) (tt := t) hr (d + 15) i l htp hal
    obtain ⟨i2, hi2⟩ : ∃ i2 : MI, i2 = px_up i1 58 1 0 := ⟨_, rfl⟩
    have fr2 : ∀ k : Nat, k < 58 ∨ k = 64 ∨ 67 < k → i2 k = i k := fun k hk => by rw [hi2, ty_up_row (by omega), fr k hk]
    have g58 : ∀ f : Int, f ≠ 1 → i2 58 f = i1 58 f := fun f hf => by rw [hi2, ty_up_j hf]
    have g581 : i2 58 1 = 0 := by rw [hi2, ty_up_eq]
    have htx : px_tx (73 + 5 * q) := by
      have := px_tx_mk (x := (q : Int)) (by omega)
      rw [Int.toNat_natCast] at this
      exact this
    have head : px_C (d + 15 + 23 + 1 + 1) 9 [vR 3] (px_sh L, i, l, r, t) = px_X (d + 15 + 23 + 1 + 1) 9 (28, [vR 3, vR (73 + 5 * q)], []) (px_sh L, i2, l, r, t) := by
      rw [e9, b9_0 hr, e64, b64_0 hr _ _ _ _ (by intros; omega), if_neg (by omega), if_neg (by omega), e47, hq, Int.toNat_natCast, Option.bind_some, px_psh_some, b9_14_t hr _ _ _ htx, r1, Option.bind_some, px_psh_none, ← hi2]
    rcases out with ⟨⟨D', kd, cn, hto, hgl, hdd, hD10⟩, hpl⟩ | ⟨e, t', er, hto⟩
    · -- a text
      obtain ⟨-, ⟨cn3, -, -⟩, -, ⟨cn59, cn591⟩, cnX, cnQ, -⟩ := cn
      obtain ⟨i3, r3, c3, d0, d1, d2, d3⟩ := tz_139 (L := L) (r := r) (tt := t) hr (d + 15 + 23) i2 l htx (by omega)
      have fr3 : ∀ k : Nat, k < 58 ∨ k = 64 ∨ (67 < k ∧ (k < 73 + 5 * q ∨ 77 + 5 * q < k)) → i3 k = i k := fun k hk => by
        rw [c3 k (by simp only [List.mem_cons, List.not_mem_nil, or_false]; omega), fr2 k (by omega)]
      have h58 : i3 58 = i2 58 := c3 58 (by simp only [List.mem_cons, List.not_mem_nil, or_false]; omega)
      obtain ⟨i4, hi4⟩ : ∃ i4 : MI, i4 = px_up i3 4 7 ((q : Int) + 1) := ⟨_, rfl⟩
      have fr4 : ∀ k : Nat, k ≠ 4 → i4 k = i3 k := fun k hk => by rw [hi4, ty_up_row hk]
      have e124 : i4 124 = i 124 := by rw [fr4 124 (by decide), fr3 124 (by omega)]
      have e123 : i4 123 = i 123 := by rw [fr4 123 (by decide), fr3 123 (by omega)]
      have e126 : i4 126 = i 126 := by rw [fr4 126 (by decide), fr3 126 (by omega)]
      obtain ⟨j1, s1, q1, z6, ze⟩ := tz_180 (L := L) (r := r) (tt := t) (T := i 64) (N := N) (m := m) hr (d + 34) i4 l hN3 hTb m1 m2 m3 (by rw [e123]; exact hN) (by rw [e126]; exact h126) (by rw [e124]; exact h6) _ hto (Or.inr ⟨D', kd, rfl⟩)
      obtain ⟨-, -, -, pC, pD, z19, z20, -, -⟩ := ze
      have pC1 : j1 123 33 = ((tz_fl D').length : Int) := pC.1
      have pC2 : tz_hC (j1 138) (j1 139) (tz_fl D') := pC.2
      have pD1 : j1 123 29 = (D'.length : Int) := pD.1
      have pD2 : tz_hD (j1 136) (j1 137) D' := pD.2.1
      have hfl := tz_fl_len D'
      obtain ⟨ja, hja⟩ : ∃ ja : MI, ja = px_up (px_up j1 123 7 0) 123 8 (-1) := ⟨_, rfl⟩
      have ra : ∀ k : Nat, k ≠ 123 → ja k = j1 k := fun k hk => by rw [hja, ty_up_row hk, ty_up_row hk]
      have a123 : ∀ f : Int, f ≠ 7 → f ≠ 8 → ja 123 f = j1 123 f := fun f f7 f8 => by rw [hja, ty_up_j f8, ty_up_j f7]
      have j124 : j1 124 = i 124 := by rw [q1.1 124 (by decide) (by decide), e124]
      obtain ⟨jb, rb, cb, k127, k128, k130⟩ := tz_181 (L := L) (r := r) (tt := t) hr (d + 34 + 5) ja l q D'.length (tz_fl D').length hq6 hD10 (by omega) (by rw [a123 29 (by decide) (by decide)]; exact pD1) (by rw [a123 33 (by decide) (by decide)]; exact pC1) (fun x x0 x1 => by
        rw [ra 137 (by decide)]
        have := tz_hD_b pD2 x x0 x1
        omega)
      obtain ⟨jc, hjc⟩ : ∃ jc : MI, jc = px_up jb 124 5 ((q : Int) + 1) := ⟨_, rfl⟩
      have b124 : jb 124 = i 124 := by rw [cb 124 (by decide), ra 124 (by decide), j124]
      have rc : ∀ k : Nat, k ≠ 124 → jc k = jb k := fun k hk => by rw [hjc, ty_up_row hk]
      -- what stays
      have big : ∀ k : Nat, k ≠ 123 → k ≠ 124 → k ≠ 4 → (k < 127 ∨ 139 < k) → jc k = i3 k := fun k k1 k2 k3 k4 => by
        rw [rc k k2, cb k (by simp only [List.mem_cons, List.not_mem_nil, or_false]; omega), ra k k1, q1.1 k k1 (by
          unfold tz_KS
          simp only [List.mem_cons, List.not_mem_nil, or_false]
          omega), fr4 k k3]
      have c4 : jc 4 = i4 4 := by
        rw [rc 4 (by decide), cb 4 (by decide), ra 4 (by decide), q1.1 4 (by decide) (by decide)]
      have c47 : jc 4 7 = (q : Int) + 1 := by rw [c4, hi4, ty_up_eq]
      have c4x : ∀ x : Int, x ≠ 7 → jc 4 x = i 4 x := fun x hx => by rw [c4, hi4, ty_up_j hx, fr3 4 (by omega)]
      have c1245 : jc 124 5 = (q : Int) + 1 := by rw [hjc, ty_up_eq]
      have c124x : ∀ x : Int, x ≠ 5 → jc 124 x = i 124 x := fun x hx => by rw [hjc, ty_up_j hx, b124]
      have c123 : ∀ f : Int, f ≠ 7 → f ≠ 8 → jc 123 f = j1 123 f := fun f f7 f8 => by rw [rc 123 (by decide), cb 123 (by decide), a123 f f7 f8]
      have c123i : ∀ f : Int, f = 0 ∨ f = 1 ∨ f = 2 → jc 123 f = i 123 f := fun f hf => by
        rw [c123 f (by omega) (by omega), q1.2 f (by
          simp only [List.mem_cons, List.not_mem_nil, or_false]
          omega), e123]
      have c58 : jc 58 = i2 58 := by rw [big 58 (by decide) (by decide) (by decide) (by omega), h58]
      have cT : ty_T jc := by
        refine ⟨⟨?_, ?_, ?_⟩, fun x x0 x1 => ?_, ?_, fun h => ?_, fun _ => ⟨?_, ?_⟩⟩
        · rw [c58, g581, c123 6 (by decide) (by decide), z6]
        · rw [c123 6 (by decide) (by decide), z6]
          omega
        · rw [c123 6 (by decide) (by decide), z6]
          omega
        · rw [c123 6 (by decide) (by decide), z6] at x1
          omega
        · rw [c58, g58 2 (by decide), f2]
          exact Or.inr rfl
        · rw [c58, g58 2 (by decide), f2] at h
          exact absurd h (by decide)
        · rw [c58, g58 3 (by decide), cn3, rc 123 (by decide), cb 123 (by decide), hja, ty_up_j (by decide), ty_up_eq]
        · rw [c58, g58 4 (by decide), hpl, rc 123 (by decide), cb 123 (by decide), hja, ty_up_eq]
      have cY : ty_Y (n + 1) jc := by
        obtain ⟨y1, y2, y3, y4, y5⟩ := hY
        have c103 : jc 103 = i 103 := by rw [big 103 (by decide) (by decide) (by decide) (by omega), fr3 103 (by omega)]
        have c108 : jc 108 = i 108 := by rw [big 108 (by decide) (by decide) (by decide) (by omega), fr3 108 (by omega)]
        have c70 : jc 70 = i 70 := by rw [big 70 (by decide) (by decide) (by decide) (by omega), fr3 70 (by omega)]
        have c125 : jc 125 = i 125 := by rw [big 125 (by decide) (by decide) (by decide) (by omega), fr3 125 (by omega)]
        refine ⟨fun p hp => ?_, by rw [c125, c1245]; omega, fun x x0 x1 => ?_, by rw [c103]; omega, by rw [c103, c108]; exact y5⟩
        · rw [c1245] at hp
          have e127 : jc 127 = jb 127 := rc 127 (by decide)
          have e128 : jc 128 = jb 128 := rc 128 (by decide)
          have e129 : jc 129 = jb 129 := rc 129 (by decide)
          have e130 : jc 130 = jb 130 := rc 130 (by decide)
          have e131 : jc 131 = jb 131 := rc 131 (by decide)
          have o : ∀ k : Nat, 127 ≤ k → k < 132 → ja k = i k := fun k k0 k1 => by
            rw [ra k (by omega), q1.1 k (by omega) (by
              unfold tz_KS
              simp only [List.mem_cons, List.not_mem_nil, or_false]
              omega), fr4 k (by omega), fr3 k (by omega)]
          by_cases hpq : p = q
          · subst hpq
            obtain ⟨fk, fu⟩ := tz_fin cnX cnQ pD2 pC2 hdd
            refine tz_tx_new (G := (tz_gl D').length) hq6 hD10 (by omega) ?_ ?_ (fun x x0 x1 => ?_) (fun x x0 x1 => ?_) (fun x x0 x1 => ?_) (fun x x0 x1 => ?_) (fun x hx => tz_hQ_b cnQ x hx) fk fu
            · rw [big (73 + 5 * p) (by omega) (by omega) (by omega) (by omega), d1, hi2, ty_up_k (by decide), cn591]
            · rw [e127]
              exact k127.1
            · rw [show 74 + 5 * p = 73 + 5 * p + 1 by omega, big (73 + 5 * p + 1) (by omega) (by omega) (by omega) (by omega), d2 x x0 x1, hi2, ty_up_k (by decide)]
            · have d3x := d3 x x0 x1
              rw [show 75 + 5 * p = 73 + 5 * p + 2 by omega, show 76 + 5 * p = 73 + 5 * p + 3 by omega, show 77 + 5 * p = 73 + 5 * p + 4 by omega, big (73 + 5 * p + 2) (by omega) (by omega) (by omega) (by omega), big (73 + 5 * p + 3) (by omega) (by omega) (by omega) (by omega), big (73 + 5 * p + 4) (by omega) (by omega) (by omega) (by omega), d3x.1, d3x.2.1, d3x.2.2, hi2, ty_up_k (by decide), ty_up_k (by decide), ty_up_k (by decide)]
              exact ⟨rfl, rfl, rfl⟩
            · have kx := k128.1 x x0 x1
              rw [e128, e129, kx.1, kx.2, ra 136 (by decide), ra 137 (by decide)]
              exact ⟨rfl, rfl⟩
            · have kx := k130.1 x x0 (by omega)
              rw [e130, e131, kx.1, kx.2, ra 138 (by decide), ra 139 (by decide)]
              exact ⟨rfl, rfl⟩
          · have hpq' : p < q := by omega
            refine tz_tx_old (i := i) (fun k k0 k1 => ?_) ?_ (fun x x0 x1 => ?_) (fun x x0 x1 => ?_) (y1 p (by omega))
            · rw [big k (by omega) (by omega) (by omega) (by omega), fr3 k (by omega)]
            · rw [e127, k127.2 _ (by omega), o 127 (by omega) (by omega)]
            · have kx := k128.2 x (by omega)
              rw [e128, e129, kx.1, kx.2, o 128 (by omega) (by omega), o 129 (by omega) (by omega)]
              exact ⟨rfl, rfl⟩
            · have kx := k130.2 x (by omega)
              rw [e130, e131, kx.1, kx.2, o 130 (by omega) (by omega), o 131 (by omega) (by omega)]
              exact ⟨rfl, rfl⟩
        · rw [c70, tz_lev_same (i := i) c4x (by omega) (fun k h8 k0 k1 => by rw [big k (by omega) (by omega) (by omega) (by omega), fr3 k (by omega)])]
          exact y3 x x0 x1
      refine ⟨(q : Int), i4, l, jc, l, ?_, ?_, ⟨tz_CR_mk hc (fun k k1 k2 => by rw [big k (by omega) (by omega) k2 (by omega), fr3 k (by omega)]) c4x c124x ⟨by rw [c47, c1245], by omega, by omega⟩ (by rw [big 125 (by decide) (by decide) (by decide) (by omega), fr3 125 (by omega)]) (c123i 0 (by omega)) (c123i 1 (by omega)) (c123i 2 (by omega)) cT cY, fun x x0 x1 => ?_⟩, ?_, ?_⟩
      · have g3 : i2 58 3 = 0 := by rw [g58 3 (by decide), cn3]
        have g47 : i3 4 7 = (q : Int) := by rw [fr3 4 (by omega), e47, hq]
        rw [head, b9_28 hr _ _ _ htx, if_pos g3, r3, Option.bind_some, px_psh_none, b9_51 hr _ _ _ (px_nl_R _), g47, show px_w32 ((q : Int) + 1) = (q : Int) + 1 from ty_w (by omega), show px_w32 ((q : Int) + 1 - 1) = (q : Int) by rw [ty_w (by omega)]; omega, ← hi4]
      · rw [s1, b180_167 hr, z19, z20, if_pos (Int.le_refl _), ← hja, j124, hq, rb, Option.bind_some, px_psh_none, b180_202 hr, b124, hq, show px_w32 ((q : Int) + 1) = (q : Int) + 1 from ty_w (by omega), show px_w32 ((q : Int) + 1 - 1) = (q : Int) by rw [ty_w (by omega)]; omega, ← hjc]
      · rw [big 1 (by decide) (by decide) (by decide) (by omega), fr3 1 (by omega)]
        exact hal x x0 x1
      · rw [fr4 0 (by decide), fr3 0 (by omega)]
      · rw [big 0 (by decide) (by decide) (by decide) (by omega), fr3 0 (by omega)]
    · -- a fault
      have hpos := tz_to_pos hto
      have e124 : i2 124 = i 124 := fr2 124 (by omega)
      have e123 : i2 123 = i 123 := fr2 123 (by omega)
      have e126 : i2 126 = i 126 := fr2 126 (by omega)
      obtain ⟨j1, s1, q1, z6, ze⟩ := tz_180 (L := L) (r := r) (tt := t) (T := i 64) (N := N) (m := m) hr (d + 34) i2 l hN3 hTb m1 m2 m3 (by rw [e123]; exact hN) (by rw [e126]; exact h126) (by rw [e124]; exact h6) _ hto (Or.inl ⟨e, t', rfl⟩)
      have z19 : j1 123 19 = e := ze.1
      have z20 : j1 123 20 = tz_tP (i 64) N t' := ze.2
      obtain ⟨jc, hjc⟩ : ∃ jc : MI, jc = px_up (px_up j1 123 7 e) 123 8 (tz_tP (i 64) N t') := ⟨_, rfl⟩
      have rc : ∀ k : Nat, k ≠ 123 → jc k = j1 k := fun k hk => by rw [hjc, ty_up_row hk, ty_up_row hk]
      have big : ∀ k : Nat, k ≠ 123 → (k < 132 ∨ 139 < k) → jc k = i2 k := fun k k1 k4 => by
        rw [rc k k1, q1.1 k k1 (by
          unfold tz_KS
          simp only [List.mem_cons, List.not_mem_nil, or_false]
          omega)]
      have c123 : ∀ f : Int, f ≠ 7 → f ≠ 8 → jc 123 f = j1 123 f := fun f f7 f8 => by rw [hjc, ty_up_j f8, ty_up_j f7]
      have c123i : ∀ f : Int, f = 0 ∨ f = 1 ∨ f = 2 → jc 123 f = i 123 f := fun f hf => by
        rw [c123 f (by omega) (by omega), q1.2 f (by
          simp only [List.mem_cons, List.not_mem_nil, or_false]
          omega), e123]
      have c58 : jc 58 = i2 58 := big 58 (by decide) (by omega)
      have cT : ty_T jc := by
        refine ⟨⟨?_, ?_, ?_⟩, fun x x0 x1 => ?_, ?_, fun h => ?_, fun _ => ⟨?_, ?_⟩⟩
        · rw [c58, g581, c123 6 (by decide) (by decide), z6]
        · rw [c123 6 (by decide) (by decide), z6]
          omega
        · rw [c123 6 (by decide) (by decide), z6]
          omega
        · rw [c123 6 (by decide) (by decide), z6] at x1
          omega
        · rw [c58, g58 2 (by decide), f2]
          exact Or.inr rfl
        · rw [c58, g58 2 (by decide), f2] at h
          exact absurd h (by decide)
        · rw [c58, g58 3 (by decide), er.1, hjc, ty_up_j (by decide), ty_up_eq]
        · rw [c58, g58 4 (by decide), er.2.1, hjc, ty_up_eq]
      have o : ∀ k : Nat, k ≠ 123 → (k < 58 ∨ k = 64 ∨ 67 < k) → (k < 132 ∨ 139 < k) → jc k = i k := fun k k1 k2 k3 => by rw [big k k1 k3, fr2 k k2]
      have cY : ty_Y (n + 1) jc := by
        obtain ⟨y1, y2, y3, y4, y5⟩ := hY
        refine ⟨fun p hp => ?_, by rw [o 125 (by decide) (by omega) (by omega), o 124 (by decide) (by omega) (by omega)]; exact y2, fun x x0 x1 => ?_, by rw [o 103 (by decide) (by omega) (by omega)]; omega, by rw [o 103 (by decide) (by omega) (by omega), o 108 (by decide) (by omega) (by omega)]; exact y5⟩
        · rw [o 124 (by decide) (by omega) (by omega)] at hp
          exact ty_tx_c (fun k k0 k1 => o k (by omega) (by omega) (by omega)) (o _ (by decide) (by omega) (by omega)) (o _ (by decide) (by omega) (by omega)) (o _ (by decide) (by omega) (by omega)) (o _ (by decide) (by omega) (by omega)) (o _ (by decide) (by omega) (by omega)) (y1 p hp)
        · rw [o 70 (by decide) (by omega) (by omega), tz_lev_same (i := i) (fun x _ => by rw [o 4 (by decide) (by omega) (by omega)]) (by omega) (fun k h8 k0 k1 => o k (by omega) (by omega) (by omega))]
          exact y3 x x0 x1
      have c124 := o 124 (by decide) (by omega) (by omega)
      have c4 := o 4 (by decide) (by omega) (by omega)
      refine ⟨-1, i2, l, jc, l, ?_, ?_, ⟨tz_CR_mk hc (fun k k1 k2 => o k (by omega) (by omega) (by omega)) (fun x _ => by rw [c4]) (fun x _ => by rw [c124]) ⟨by rw [c4, c124, e47], by rw [c124]; omega, by rw [c124]; omega⟩ (o 125 (by decide) (by omega) (by omega)) (c123i 0 (by omega)) (c123i 1 (by omega)) (c123i 2 (by omega)) cT cY, fun x x0 x1 => ?_⟩, fr2 0 (by omega), o 0 (by decide) (by omega) (by omega)⟩
      · rw [head, b9_28 hr _ _ _ htx, if_neg (fun g => er.2.2 (er.1.symm.trans ((g58 3 (by decide)).symm.trans g)))]
      · rw [s1, b180_167 hr, z19, z20, if_neg (by omega), ← hjc]
      · rw [o 1 (by decide) (by omega) (by omega)]
        exact hal x x0 x1
