/-! seatsAnew (202). -/
section TNA
variable {L t : Nat} {r : MR}
theorem tn_202_c (hr : px_hr r) (d : Nat) (l : MI) (x1 x2 : Int) : ∀ (n : Nat) (i : MI) (g : Int), 0 ≤ g → g + n = 10 →
    ∃ i1 : MI, px_X (d + 1) 202 (2, [vR 123, vI x1, vI x2, vI g], []) (px_sh L, i, l, r, t) = px_X (d + 1) 202 (2, [vR 123, vI x1, vI x2, vI 10], []) (px_sh L, i1, l, r, t) ∧ ty_ch [145] i i1 ∧ (∀ x, g ≤ x → x < 10 → i1 145 x = i 142 x) ∧ ∀ x, x < g → i1 145 x = i 145 x
  | 0, i, g, h0, hn => by
    have e : g = 10 := by omega
    rw [e]
    exact ⟨i, rfl, ty_ch_rf, fun x x0 x1 => by omega, fun _ _ => rfl⟩
  | n + 1, i, g, h0, hn => by
    have wg : px_w32 (g + 1) = g + 1 := ty_w (by omega)
    have cu : ty_ch [145] i (px_up i 145 g (i 142 g)) := ty_ch_up (by decide)
    obtain ⟨i1, r1, c1, p1, p2⟩ := tn_202_c hr d l x1 x2 n (px_up i 145 g (i 142 g)) (g + 1) (by omega) (by omega)
    refine ⟨i1, ?_, ty_ch_tr cu c1 rfl rfl, fun x x0 x1' => ?_, fun x hx => ?_⟩
    · rw [b202_2 hr _ _ _ _ _ _ (fun _ => by omega), if_neg (by omega), wg, r1]
    · by_cases e : x = g
      · rw [e, p2 g (by omega), ty_up_eq]
      · rw [p1 x (by omega) x1', cu 142 (by decide)]
    · rw [p2 x (by omega), ty_up_j (by omega)]
theorem tn_202_n (hr : px_hr r) (d : Nat) (l : MI) (x1 x2 T G : Int) (R R0 : Int → Int) (hT : 0 ≤ T ∧ T ≤ 1440) (hG : 0 ≤ G ∧ G ≤ 10) : ∀ (n : Nat) (i : MI) (g : Int), i 124 4 = G → i 124 10 = T → i 142 = R → i 145 = R0 → (∀ x, g ≤ x → x < G → 0 ≤ i 124 (131 + 14 * x) ∧ i 124 (131 + 14 * x) ≤ 1440) → 0 ≤ g → g + n = G →
    ∃ i1 : MI, px_X (d + 1) 202 (34, [vR 123, vI x1, vI x2, vI g], []) (px_sh L, i, l, r, t) = px_X (d + 1) 202 (34, [vR 123, vI x1, vI x2, vI G], []) (px_sh L, i1, l, r, t) ∧ ty_ch [124] i i1 ∧
      (∀ x, 0 ≤ x → x < 10 → i1 124 (131 + 14 * x) = i 124 (131 + 14 * x) + (if g ≤ x ∧ x < G ∧ 0 < T ∧ ¬ R x = R0 x then 1 else 0)) ∧
      (∀ k x, 0 ≤ k → k < 50 → 0 ≤ x → x < 10 → i1 124 (320 + 10 * k + x) = if k = T ∧ g ≤ x ∧ x < G then R x else i 124 (320 + 10 * k + x)) ∧
      ∀ y : Int, y < 320 → (∀ x : Int, 0 ≤ x → x < 10 → y ≠ 131 + 14 * x) → i1 124 y = i 124 y
  | 0, i, g, h4, h10, hR, hR0, hb, hg, hn => by
    have e : g = G := by omega
    rw [e]
    exact ⟨i, rfl, ty_ch_rf, fun x x0 x1 => by rw [if_neg (by omega), Int.add_zero], fun k x k0 k1 x0 x1 => by rw [if_neg (by omega)], fun _ _ _ => rfl⟩
  | n + 1, i, g, h4, h10, hR, hR0, hb, hg, hn => by
    have wg : px_w32 (g + 1) = g + 1 := ty_w (by omega)
    have wa : px_w32 (14 * g) = 14 * g := ty_w (by omega)
    have wb : px_w32 (120 + 14 * g) = 120 + 14 * g := ty_w (by omega)
    have wc : px_w32 (120 + 14 * g + 11) = 131 + 14 * g := by rw [ty_w (by omega)]; omega
    have hbg := hb g (Int.le_refl g) (by omega)
    obtain ⟨y, hy⟩ : ∃ y : Int, y = if 0 < T ∧ ¬ R g = R0 g then 1 else 0 := ⟨_, rfl⟩
    have yb : 0 ≤ y ∧ y ≤ 1 := by
      rw [hy]
      split <;> omega
    have e34 := b202_34 (L := L) (t := t) hr d i l x1 x2 g
    rw [wa, wb, wc, h4, h10, hR, hR0] at e34
    have e34 := e34 (by intros; omega) (by intros; omega)
    rw [if_neg (show ¬ G ≤ g by omega)] at e34
    have e90 : px_X (d + 1) 202 (34, [vR 123, vI x1, vI x2, vI g], []) (px_sh L, i, l, r, t) = px_X (d + 1) 202 (90, [vR 123, vI x1, vI x2, vI g], [vI y, vI (i 124 (131 + 14 * g)), vI (131 + 14 * g), vR 124]) (px_sh L, i, l, r, t) := by
      rw [e34]
      by_cases c0 : T ≤ 0
      · rw [if_pos c0, b202_89 hr, hy, if_neg (by omega)]
      · rw [if_neg c0]
        by_cases c1 : R g = R0 g
        · rw [if_pos c1, b202_89 hr, hy, if_neg (fun h => h.2 c1)]
        · rw [if_neg c1, hy, if_pos ⟨by omega, c1⟩]
    obtain ⟨ia, hia⟩ : ∃ ia : MI, ia = px_up i 124 (131 + 14 * g) (i 124 (131 + 14 * g) + y) := ⟨_, rfl⟩
    have wy : px_w32 (i 124 (131 + 14 * g) + y) = i 124 (131 + 14 * g) + y := ty_w (by omega)
    have va : ∀ z, z ≠ 131 + 14 * g → ia 124 z = i 124 z := fun z hz => by rw [hia, ty_up_j hz]
    have a10 : ia 124 10 = T := by rw [va 10 (by omega)]; exact h10
    have ra : ∀ k, k ≠ 124 → ia k = i k := fun k hk => by rw [hia, ty_up_row hk]
    obtain ⟨ib, hib⟩ : ∃ ib : MI, ib = if T < 50 then px_up ia 124 (320 + 10 * T + g) (R g) else ia := ⟨_, rfl⟩
    have rb : ∀ k, k ≠ 124 → ib k = i k := fun k hk => by
      rw [hib]
      split
      · rw [ty_up_row hk, ra k hk]
      · exact ra k hk
    have vb : ∀ z, z < 320 → ib 124 z = ia 124 z := fun z hz => by
      rw [hib]
      split
      · rw [ty_up_j (by omega)]
      · rfl
    have vk : ∀ k x, 0 ≤ k → k < 50 → 0 ≤ x → x < 10 → ib 124 (320 + 10 * k + x) = if k = T ∧ x = g then R g else i 124 (320 + 10 * k + x) := fun k x k0 k1 x0 x1 => by
      rw [hib]
      by_cases c : T < 50
      · rw [if_pos c]
        by_cases ex : k = T ∧ x = g
        · rw [if_pos ex, ex.1, ex.2, ty_up_eq]
        · rw [if_neg ex, ty_up_j (by omega), va _ (by omega)]
      · rw [if_neg c, if_neg (by omega), va _ (by omega)]
    have enx : px_X (d + 1) 202 (90, [vR 123, vI x1, vI x2, vI g], [vI y, vI (i 124 (131 + 14 * g)), vI (131 + 14 * g), vR 124]) (px_sh L, i, l, r, t) = px_X (d + 1) 202 (34, [vR 123, vI x1, vI x2, vI (g + 1)], []) (px_sh L, ib, l, r, t) := by
      have hb90 := b202_90 (L := L) (t := t) hr (d + 1) i l x1 x2 g y (i 124 (131 + 14 * g)) (131 + 14 * g)
      rw [wy, ← hia, a10, wg, hR] at hb90
      have hb90 := hb90 (by omega) (by intros; omega) (fun h => by
        rw [ty_w (x := 10 * T) (by omega), ty_w (x := 320 + 10 * T) (by omega), ty_w (by omega)]
        omega)
      rw [hb90]
      by_cases c : 50 ≤ T
      · rw [if_pos c, hib, if_neg (by omega)]
      · rw [if_neg c, hib, if_pos (by omega), ty_w (x := 10 * T) (by omega), ty_w (x := 320 + 10 * T) (by omega), ty_w (x := 320 + 10 * T + g) (by omega)]
    have cb : ty_ch [124] i ib := fun k hk => rb k (fun e => hk (by rw [e]; decide))
    obtain ⟨i1, r1, c1, p1, p2, p3⟩ := tn_202_n hr d l x1 x2 T G R R0 hT hG n ib (g + 1) (by rw [vb 4 (by omega), va 4 (by omega)]; exact h4) (by rw [vb 10 (by omega)]; exact a10) (by rw [rb 142 (by decide)]; exact hR) (by rw [rb 145 (by decide)]; exact hR0) (fun x x0 x1 => by
      rw [vb _ (by omega), va _ (by omega)]
      exact hb x (by omega) x1) (by omega) (by omega)
    refine ⟨i1, by rw [e90, enx, r1], ty_ch_tr cb c1 rfl rfl, fun x x0 x1 => ?_, fun k x k0 k1 x0 x1 => ?_, fun z hz hn => ?_⟩
    · rw [p1 x x0 x1, vb _ (by omega)]
      by_cases ex : x = g
      · rw [ex, if_neg (show ¬ (g + 1 ≤ g ∧ g < G ∧ 0 < T ∧ ¬ R g = R0 g) from fun h => by omega), Int.add_zero, hia, ty_up_eq, hy]
        by_cases c : 0 < T ∧ ¬ R g = R0 g
        · rw [if_pos c, if_pos ⟨by omega, by omega, c⟩]
        · rw [if_neg c, if_neg (fun h => c h.2.2)]
      · rw [va _ (by omega)]
        by_cases c : g + 1 ≤ x ∧ x < G ∧ 0 < T ∧ ¬ R x = R0 x
        · rw [if_pos c, if_pos ⟨by omega, c.2⟩]
        · rw [if_neg c, if_neg (fun h => c ⟨by omega, h.2⟩)]
    · rw [p2 k x k0 k1 x0 x1, vk k x k0 k1 x0 x1]
      by_cases ex : k = T ∧ x = g
      · rw [if_neg (by omega), if_pos ex, if_pos ⟨ex.1, by omega, by omega⟩, ex.2]
      · rw [if_neg ex]
        by_cases c : k = T ∧ g + 1 ≤ x ∧ x < G
        · rw [if_pos c, if_pos ⟨c.1, by omega, c.2.2⟩]
        · rw [if_neg c, if_neg (fun h => c ⟨h.1, by omega, h.2.2⟩)]
    · rw [p3 z hz hn, vb z hz, va z (hn g hg (by omega))]
/-- seatsAnew -/
theorem tn_202 (hr : px_hr r) (d : Nat) (i l : MI) (m S T : Int) (hQ : ty_Q i) (hm : 0 ≤ m ∧ m < 1440) (hS : 0 ≤ S ∧ S < 1024) (hT : 0 ≤ T ∧ T ≤ 1440) (h10 : i 124 10 = T) (h9 : 0 ≤ i 124 9 ∧ i 124 9 ≤ 100000) (hb : ∀ x, 0 ≤ x → x < i 124 4 → 0 ≤ i 124 (131 + 14 * x) ∧ i 124 (131 + 14 * x) ≤ 1440) :
    ∃ i1 l1 : MI, px_C (d + 5 + 1) 202 [vR 123, vI S, vI m] (px_sh L, i, l, r, t) = some (none, (px_sh L, i1, l1, r, t)) ∧ ty_ch [124, 140, 142, 143, 144, 145] i i1 ∧ ty_ch [141] l l1 ∧ ty_Q i1 ∧
      i1 124 10 = T + 1 ∧ i1 124 9 = i 124 9 + tn_qn i S m ∧
      (∀ x, 0 ≤ x → x < 10 → i1 142 x = if x < i 124 4 ∧ ty_bit S x = true then ty_place i m S x else -2) ∧
      (∀ x, 0 ≤ x → x < i 124 4 → i1 124 (131 + 14 * x) = i 124 (131 + 14 * x) + (if 0 < T ∧ ¬ (if x < i 124 4 ∧ ty_bit S x = true then ty_place i m S x else -2) = i 142 x then 1 else 0)) ∧
      (∀ k x, 0 ≤ k → k < 50 → 0 ≤ x → x < i 124 4 → i1 124 (320 + 10 * k + x) = if k = T then (if x < i 124 4 ∧ ty_bit S x = true then ty_place i m S x else -2) else i 124 (320 + 10 * k + x)) ∧
      ∀ y : Int, y < 320 → y ≠ 9 → y ≠ 10 → (∀ x : Int, 0 ≤ x → x < 10 → y ≠ 131 + 14 * x) → i1 124 y = i 124 y := by
  have b4 := hQ.2.1.2
  obtain ⟨ia, ra, ca, pa, -⟩ := tn_202_c (L := L) (r := r) (t := t) hr (d + 5) l S m 10 i 0 (by omega) (by omega)
  have Qa : ty_Q ia := ty_Q_ch hQ ca rfl
  obtain ⟨ib, lb, rb, cb, clb, pb⟩ := q197 (L := L) (r := r) (t := t) hr d ia l m S Qa hm hS
  have a124 : ia 124 = i 124 := ca 124 (by decide)
  have b124 : ib 124 = i 124 := by rw [cb 124 (by decide), a124]
  have cab : ty_ch [140, 142, 143, 144, 145] i ib := ty_ch_tr ca cb rfl rfl
  have Qb : ty_Q ib := ty_Q_ch Qa cb rfl
  have epl : ∀ x, ty_place ia m S x = ty_place i m S x := fun x => by rw [tn_place hQ (tn_fp_ch ca rfl)]
  have hR : ∀ x, 0 ≤ x → x < 10 → ib 142 x = if x < i 124 4 ∧ ty_bit S x = true then ty_place i m S x else -2 := fun x x0 x1 => by
    rw [pb x x0 x1, a124, epl]
  obtain ⟨ic, rc, cc, p1, p2, p3⟩ := tn_202_n (L := L) (r := r) (t := t) hr (d + 5) lb S m T (i 124 4) (ib 142) (ib 145) hT b4 (i 124 4).toNat ib 0 (by rw [b124]) (by rw [b124]; exact h10) rfl rfl (fun x x0 x1 => by rw [b124]; exact hb x x0 x1) (by omega) (by omega)
  have fbc : tn_fr ib ic := by
    refine ⟨fun k hk => cc k (by simp only [List.mem_singleton]; omega), fun x hx => p3 x ?_ (fun z z0 z1 e => hx (Or.inr (Or.inr (Or.inr ⟨z, z0, z1, by omega, by omega⟩))))⟩
    by_cases h : x < 320
    · exact h
    · exact absurd (Or.inr (Or.inr (Or.inl (by omega)))) hx
  have Qc : ty_Q ic := tn_Q Qb fbc
  have fpc : tn_fp i ic := tn_fp_tr (tn_fp_ch cab rfl) (tn_fp_fr fbc)
  have c4 : ic 124 4 = i 124 4 := by rw [p3 4 (by omega) (fun x x0 x1 => by omega), b124]
  obtain ⟨id, ld, rd, cd, cld⟩ := tn_201 (L := L) (r := r) (t := t) hr d ic lb m S (ty_place i m S) hm Qc (fun x x0 x1 => by rw [cc 142 (by decide), c4]; exact hR x x0 x1) (fun x => (tn_P_b hQ S m x).1)
  have eqn : tn_cc (tn_f ic m S (ty_place i m S)) (ic 124 4) (ic 124 4).toNat 0 = tn_qn i S m := by
    unfold tn_qn
    rw [c4]
    refine tn_cc_c _ _ (fun x y x0 xy y1 => ?_)
    unfold tn_f
    rw [tn_qu_fp hQ fpc (by omega) (by omega), tn_qu_fp hQ fpc (by omega) (by omega)]
  rw [eqn] at rd
  have hq : 0 ≤ tn_qn i S m ∧ tn_qn i S m ≤ 45 := tn_cc_45 b4
  obtain ⟨q, hqq⟩ : ∃ q, q = tn_qn i S m := ⟨_, rfl⟩
  rw [← hqq] at rd hq ⊢
  have c9 : ic 124 9 = i 124 9 := by rw [p3 9 (by omega) (fun x x0 x1 => by omega), b124]
  have c10 : ic 124 10 = T := by rw [p3 10 (by omega) (fun x x0 x1 => by omega), b124, h10]
  have d124 : id 124 = ic 124 := cd 124 (by decide)
  obtain ⟨ie, hie⟩ : ∃ ie : MI, ie = px_up (px_up id 124 9 (i 124 9 + q)) 124 10 (T + 1) := ⟨_, rfl⟩
  have re : ∀ k, k ≠ 124 → ie k = id k := fun k hk => by rw [hie, ty_up_row hk, ty_up_row hk]
  have ve : ∀ y, y ≠ 9 → y ≠ 10 → ie 124 y = ic 124 y := fun y h1 h2 => by rw [hie, ty_up_j h2, ty_up_j h1, d124]
  have fde : tn_fr id ie := ⟨fun k hk => re k (by omega), fun x hx => by
    rw [ve x (fun h => hx (Or.inl h)) (fun h => hx (Or.inr (Or.inl h))), d124]⟩
  refine ⟨ie, ld, ?_, fun k hk => ?_, ty_ch_tr clb cld rfl rfl, tn_Q (ty_Q_ch Qc cd rfl) fde, by rw [hie, ty_up_eq], by rw [hie, ty_up_j (by omega), ty_up_eq], fun x x0 x1 => ?_, fun x x0 x1 => ?_, fun k x k0 k1 x0 x1 => ?_, fun y y0 y1 y2 y3 => ?_⟩
  · have h150 := b202_150 (L := L) (t := t) hr (d + 5 + 1) id ld S m (i 124 4) q (i 124 9) 9 (by omega)
    rw [show px_w32 (i 124 9 + q) = i 124 9 + q from ty_w (by omega)] at h150
    have e10 : (px_up id 124 9 (i 124 9 + q)) 124 10 = T := by rw [ty_up_j (by omega), d124, c10]
    rw [e10, show px_w32 (T + 1) = T + 1 from ty_w (by omega), ← hie] at h150
    have h34 := b202_34 (L := L) (t := t) hr (d + 5) ic lb S m (i 124 4) (by intro h; exact absurd (by rw [c4]; omega) h) (by intro h; exact absurd (by rw [c4]; omega) h)
    rw [if_pos (by rw [c4]; omega), c9, rd, Option.bind_some, px_psh_some] at h34
    have h2 := b202_2 (L := L) (t := t) hr (d + 5) ia l S m 10 (fun h => absurd (by omega) h)
    rw [if_pos (by omega), rb, Option.bind_some, px_psh_none, b202_32 hr, rc] at h2
    rw [e202, b202_0 hr, ra, h2, h34, h150]
  · have k124 : k ≠ 124 := fun e => hk (by rw [e]; decide)
    rw [re k k124, cd k (fun h => hk (by
      simp only [List.mem_cons, List.not_mem_nil, or_false] at h ⊢
      omega)), cc k (by simp only [List.mem_singleton]; exact k124), cab k (fun h => hk (by
      simp only [List.mem_cons, List.not_mem_nil, or_false] at h ⊢
      omega))]
  · rw [re 142 (by decide), cd 142 (by decide), cc 142 (by decide), hR x x0 x1]
  · rw [ve _ (by omega) (by omega), p1 x x0 (by omega), b124, hR x x0 (by omega), cb 145 (by decide), pa x x0 (by omega)]
    by_cases c : 0 < T ∧ ¬ (if x < i 124 4 ∧ ty_bit S x = true then ty_place i m S x else -2) = i 142 x
    · rw [if_pos c, if_pos ⟨x0, x1, c⟩]
    · rw [if_neg c, if_neg (fun h => c h.2.2)]
  · rw [ve _ (by omega) (by omega), p2 k x k0 k1 x0 (by omega), hR x x0 (by omega), b124]
    by_cases c : k = T
    · rw [if_pos c, if_pos ⟨c, x0, x1⟩]
    · rw [if_neg c, if_neg (fun h => c h.1)]
  · rw [ve y y1 y2, p3 y y0 y3, b124]
end TNA
