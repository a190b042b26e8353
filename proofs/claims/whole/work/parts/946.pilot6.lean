/-! A pilot: the reference's laysFar (215), nearer (216). -/
def tq_I (W C : Int) (sh : Int → Bool) (f : Int → Int) : Prop := ∀ c, 0 ≤ c → c < C → 0 ≤ f c ∧ f c ≤ 99 ∧ (f c < 99 → tq_R W C sh (f c).toNat c = true)
def tq_Lo (W C : Int) (sh : Int → Bool) (k : Nat) (f : Int → Int) : Prop := ∀ j : Nat, j ≤ k → ∀ c, 0 ≤ c → c < C → tq_R W C sh j c = true → f c ≤ (j : Int)
/-- the reference's grid -/
def tq_gr (i : MI) (W H C : Int) : Prop := i 123 0 = W ∧ i 123 1 = H ∧ i 123 2 = C ∧ C = W * H ∧ (2 ≤ W ∧ W ≤ 6) ∧ (2 ≤ H ∧ H ≤ 6) ∧ (4 ≤ C ∧ C ≤ 36)
theorem tq_gr_c {i i' : MI} {W H C : Int} (h : tq_gr i W H C) (e : i' 123 = i 123) : tq_gr i' W H C := by
  unfold tq_gr at h ⊢
  rw [e]
  exact h
theorem tq_bes_ne {W H c s : Int} (hW : 2 ≤ W ∧ W ≤ 6) (hc : 0 ≤ c ∧ c < W * H) (hb : ty_bes W (W * H) c s ≠ -1) : ty_bes W (W * H) c s ≠ c := by
  unfold ty_bes at hb ⊢
  repeat' split
  all_goals omega
theorem tq_adj_b {W H c s : Int} (hW : 2 ≤ W ∧ W ≤ 6) (hc : 0 ≤ c ∧ c < W * H) (hs : s = 0 ∨ s = 1 ∨ s = 2 ∨ s = 3) (hb : ty_bes W (W * H) c s ≠ -1) : ty_adj W (W * H) c (ty_bes W (W * H) c s) := by
  have h := ty_bes_b (W := W) (H := H) (c := c) (s := s) hW hc
  refine (ty_bes_adj (W := W) (C := W * H) hW hc.1 (by omega)).mpr ?_
  rcases hs with q | q | q | q <;> subst q
  · exact Or.inl rfl
  · exact Or.inr (Or.inl rfl)
  · exact Or.inr (Or.inr (Or.inl rfl))
  · exact Or.inr (Or.inr (Or.inr rfl))
section TQD
variable {L t : Nat} {r : MR}
theorem tq_210 (hr : px_hr r) (d : Nat) (i l : MI) {W H C : Int} (hg : tq_gr i W H C) (c s : Int) (hc : 0 ≤ c ∧ c < C) (hs : s = 0 ∨ s = 1 ∨ s = 2 ∨ s = 3) : px_C (d + 1) 210 [vR 123, vI c, vI s] (px_sh L, i, l, r, t) = some (some (vI (ty_bes W C c s)), (px_sh L, i, l, r, t)) := by
  obtain ⟨h0, h1, h2, hC, hW, hH, -⟩ := hg
  have h := q210 (L := L) (r := r) (t := t) hr d i l c s (by rw [h0]; exact hW) (by rw [h1]; exact hH) (by rw [h0, h1, h2]; exact hC) (by rw [h2]; exact hc) hs
  rw [h0, h2] at h
  exact h
theorem tq_215_0 (hr : px_hr r) (d : Nat) (l : MI) (C : Int) (sh : Int → Bool) (hC36 : C ≤ 36) : ∀ (n : Nat) (i : MI) (c : Int), i 123 2 = C → (∀ c, 0 ≤ c → c < C → decide (i 124 (21 + 2 * c) = 1) = sh c) → 0 ≤ c → c + n = C → (∀ x, 0 ≤ x → x < c → i 149 x = if sh x = true then 0 else 99) →
    ∃ i1 : MI, px_X (d + 1) 215 (2, [vR 123, vI c, vJ, vJ, vJ], []) (px_sh L, i, l, r, t) = px_X (d + 1) 215 (38, [vR 123, vI 0, vJ, vJ, vJ], []) (px_sh L, i1, l, r, t) ∧ ty_ch [149] i i1 ∧ ∀ x, 0 ≤ x → x < C → i1 149 x = if sh x = true then 0 else 99
  | 0, i, c, h2, hs, h0, hn, hf => by
    refine ⟨i, ?_, ty_ch_rf, fun x x0 x1 => hf x x0 (by omega)⟩
    rw [b215_2 hr, if_pos (by omega)]
  | n + 1, i, c, h2, hs, h0, hn, hf => by
    have wc : px_w32 (c + 1) = c + 1 := ty_w (by omega)
    have hsc := hs c h0 (by omega)
    have hx : px_X (d + 1) 215 (2, [vR 123, vI c, vJ, vJ, vJ], []) (px_sh L, i, l, r, t) = px_X (d + 1) 215 (2, [vR 123, vI (c + 1), vJ, vJ, vJ], []) (px_sh L, px_up i 149 c (if sh c = true then 0 else 99), l, r, t) := by
      rw [b215_2 hr, if_neg (by omega), q209 hr _ _ _ _ (by omega), Option.bind_some, px_psh_some, b215_20 hr _ _ _ _ _ _ (fun _ => by omega) (fun _ => by omega), hsc, wc]
      cases hb : sh c with
      | true => rw [if_neg (show ¬ ty_b true = 0 by decide), if_pos rfl]
      | false => rw [if_pos (show ty_b false = 0 from rfl), if_neg Bool.false_ne_true]
    obtain ⟨i1, r1, c1, p1⟩ := tq_215_0 hr d l C sh hC36 n (px_up i 149 c (if sh c = true then 0 else 99)) (c + 1) (by rw [ty_up_row (by decide)]; exact h2) (by rw [ty_up_row (by decide)]; exact hs) (by omega) (by omega) (fun x x0 x1 => by
      by_cases e : x = c
      · rw [e, ty_up_eq]
      · rw [ty_up_j e]
        exact hf x x0 (by omega))
    exact ⟨i1, hx.trans r1, ty_ch_tr (ty_ch_up (S := [149]) (by decide)) c1 rfl rfl, p1⟩
theorem tq_215_s (hr : px_hr r) (d : Nat) (l : MI) (W H C : Int) (sh : Int → Bool) (t0 c : Int) (hc : 0 ≤ c ∧ c < C) : ∀ (n : Nat) (i : MI) (s : Int) (v4 : PV), px_nl v4 → tq_gr i W H C → tq_I W C sh (i 149) → 0 ≤ s → s + n = 4 →
    ∃ (i1 : MI) (w4 : PV), px_nl w4 ∧ px_X (d + 1 + 1) 215 (58, [vR 123, vI t0, vI c, vI s, v4], []) (px_sh L, i, l, r, t) = px_X (d + 1 + 1) 215 (48, [vR 123, vI t0, vI (c + 1), vI 4, w4], []) (px_sh L, i1, l, r, t) ∧ ty_ch [149] i i1 ∧ (∀ x, x ≠ c → i1 149 x = i 149 x) ∧ i1 149 c ≤ i 149 c ∧ (∀ u, s ≤ u → u < 4 → ty_bes W C c u ≠ -1 → i1 149 c ≤ i 149 (ty_bes W C c u) + 1) ∧ tq_I W C sh (i1 149)
  | 0, i, s, v4, h4, hg, hI, h0, hn => by
    have hdim := hg.2.2.2.2.2.2
    refine ⟨i, v4, h4, ?_, ty_ch_rf, fun _ _ => rfl, Int.le_refl _, fun u u0 u1 => by omega, hI⟩
    rw [b215_58 hr _ _ _ _ _ _ h4, if_pos (by omega), ty_w (x := c + 1) (by omega), show s = 4 by omega]
  | n + 1, i, s, v4, h4, hg, hI, h0, hn => by
    have hg' := hg
    obtain ⟨e0, e1, e2, hC, hW, hH, hdim⟩ := hg'
    have hbb := ty_bes_b (W := W) (H := H) (c := c) (s := s) hW (by rw [← hC]; exact hc)
    have hne := tq_bes_ne (W := W) (H := H) (c := c) (s := s) hW (by rw [← hC]; exact hc)
    have hadj := tq_adj_b (W := W) (H := H) (c := c) (s := s) hW (by rw [← hC]; exact hc) (by omega)
    rw [← hC] at hbb hne hadj
    have ws : px_w32 (s + 1) = s + 1 := ty_w (by omega)
    have h58 := b215_58 (L := L) (t := t) hr (d + 1) i l t0 c s h4
    rw [if_neg (by omega), tq_210 hr d i l hg c s hc (by omega), Option.bind_some, px_psh_some] at h58
    obtain ⟨b, hbe⟩ : ∃ b, b = ty_bes W C c s := ⟨_, rfl⟩
    rw [← hbe] at hbb hne hadj h58
    have hIc := hI c hc.1 hc.2
    have hIb : b ≠ -1 → 0 ≤ i 149 b ∧ i 149 b ≤ 99 ∧ (i 149 b < 99 → tq_R W C sh (i 149 b).toNat b = true) := fun h => hI b (by omega) (by omega)
    have wb : b ≠ -1 → px_w32 (i 149 b + 1) = i 149 b + 1 := fun h => ty_w (by have := hIb h; omega)
    obtain ⟨v, hv⟩ : ∃ v, v = if b ≠ -1 ∧ i 149 b + 1 < i 149 c then i 149 b + 1 else i 149 c := ⟨_, rfl⟩
    have hx : px_X (d + 1 + 1) 215 (58, [vR 123, vI t0, vI c, vI s, v4], []) (px_sh L, i, l, r, t) = px_X (d + 1 + 1) 215 (58, [vR 123, vI t0, vI c, vI (s + 1), vI b], []) (px_sh L, px_up i 149 c v, l, r, t) := by
      rw [h58, b215_69 hr _ _ _ _ _ _ h4 _ (fun _ => by omega) (fun _ => by omega) (fun _ _ => by omega) (fun _ _ => by omega), ws]
      by_cases h1 : b = -1
      · rw [if_pos h1, b215_112 hr _ _ _ _ _ _ _ _ (by omega) (by omega), ws, hv, if_neg (fun h => h.1 h1)]
      · rw [if_neg h1, wb h1]
        by_cases h2 : i 149 c ≤ i 149 b + 1
        · rw [if_pos h2, b215_112 hr _ _ _ _ _ _ _ _ (by omega) (by omega), ws, hv, if_neg (fun h => by omega)]
        · rw [if_neg h2, hv, if_pos ⟨h1, by omega⟩]
    have hvle : v ≤ i 149 c := by
      rw [hv]
      split <;> omega
    have hvb : b ≠ -1 → v ≤ i 149 b + 1 := fun h => by
      rw [hv]
      split <;> omega
    have hIv : 0 ≤ v ∧ v ≤ 99 ∧ (v < 99 → tq_R W C sh v.toNat c = true) := by
      by_cases h : b ≠ -1 ∧ i 149 b + 1 < i 149 c
      · rw [if_pos h] at hv
        have hb2 := hIb h.1
        refine ⟨by omega, by omega, fun _ => ?_⟩
        have := tq_R_s (hb2.2.2 (by omega)) (hadj h.1)
        rw [hv, show (i 149 b + 1).toNat = (i 149 b).toNat + 1 by omega]
        exact this
      · rw [if_neg h] at hv
        rw [hv]
        exact hIc
    have cu : ty_ch [149] i (px_up i 149 c v) := ty_ch_up (by decide)
    have hI' : tq_I W C sh ((px_up i 149 c v) 149) := fun x x0 x1 => by
      by_cases e : x = c
      · rw [e, ty_up_eq]
        exact hIv
      · rw [ty_up_j e]
        exact hI x x0 x1
    obtain ⟨i1, w4, n4, r1, c1, p1, p2, p3, p4⟩ := tq_215_s hr d l W H C sh t0 c hc n (px_up i 149 c v) (s + 1) (vI b) (px_nl_I _) (tq_gr_c hg (ty_up_row (by decide))) hI' (by omega) (by omega)
    rw [ty_up_eq] at p2
    refine ⟨i1, w4, n4, hx.trans r1, ty_ch_tr cu c1 rfl rfl, fun x hx => by rw [p1 x hx, ty_up_j hx], by omega, fun u u0 u1 hu => ?_, p4⟩
    by_cases e : u = s
    · rw [e, ← hbe]
      rw [e, ← hbe] at hu
      have := hvb hu
      omega
    · have h := p3 u (by omega) u1 hu
      have hne2 := tq_bes_ne (W := W) (H := H) (c := c) (s := u) hW (by rw [← hC]; exact hc) (by rw [← hC]; exact hu)
      rw [← hC] at hne2
      rw [ty_up_j hne2] at h
      exact h
theorem tq_215_c (hr : px_hr r) (d : Nat) (l : MI) (W H C : Int) (sh : Int → Bool) (t0 : Int) (k : Nat) : ∀ (n : Nat) (i : MI) (c : Int) (v3 v4 : PV), px_nl v3 → px_nl v4 → tq_gr i W H C → tq_I W C sh (i 149) → tq_Lo W C sh k (i 149) → 0 ≤ c → c + n = C → (∀ j : Nat, j ≤ k + 1 → ∀ x, 0 ≤ x → x < c → tq_R W C sh j x = true → i 149 x ≤ (j : Int)) →
    ∃ (i1 : MI) (w2 w3 w4 : PV), px_nl w2 ∧ px_nl w3 ∧ px_nl w4 ∧ px_X (d + 1 + 1) 215 (48, [vR 123, vI t0, vI c, v3, v4], []) (px_sh L, i, l, r, t) = px_X (d + 1 + 1) 215 (38, [vR 123, vI (px_w32 (t0 + 1)), w2, w3, w4], []) (px_sh L, i1, l, r, t) ∧ ty_ch [149] i i1 ∧ tq_I W C sh (i1 149) ∧ tq_Lo W C sh (k + 1) (i1 149)
  | 0, i, c, v3, v4, h3, h4, hg, hI, hL, h0, hn, hf => by
    have e2 := hg.2.2.1
    refine ⟨i, vI c, v3, v4, px_nl_I _, h3, h4, ?_, ty_ch_rf, hI, fun j hj x x0 x1 => hf j hj x x0 (by omega)⟩
    rw [b215_48 hr _ _ _ _ _ h3 h4, if_pos (by omega)]
  | n + 1, i, c, v3, v4, h3, h4, hg, hI, hL, h0, hn, hf => by
    have hg' := hg
    obtain ⟨e0, e1, e2, hC, hW, hH, hdim⟩ := hg'
    obtain ⟨ia, w4, n4, ra, ca, p1, p2, p3, p4⟩ := tq_215_s (L := L) (r := r) (t := t) hr d l W H C sh t0 c ⟨h0, by omega⟩ 4 i 0 v4 h4 hg hI (by omega) (by omega)
    have hc0 : ∀ j : Nat, j ≤ k + 1 → tq_R W C sh j c = true → ia 149 c ≤ (j : Int) := fun j hj hR => by
      cases j with
      | zero =>
        have := hL 0 (by omega) c h0 (by omega) hR
        omega
      | succ j =>
        have hR' : (tq_R W C sh j c || ty_nb W C (tq_R W C sh j) c) = true := hR
        rw [Bool.or_eq_true] at hR'
        rcases hR' with h | h
        · have := hL j (by omega) c h0 (by omega) h
          omega
        · obtain ⟨e, ha, he⟩ := ty_nb_adj.mp h
          have hs := (ty_adj_s (W := W) (H := H) hW (by rw [← hC]; exact ⟨h0, by omega⟩) (by rw [← hC]; exact ha)).1
          rw [← hC] at hs
          have hle := hL j (by omega) e hs.1 hs.2 he
          have key : ∀ u, 0 ≤ u → u < 4 → e = ty_bes W C c u → ia 149 c ≤ ((j + 1 : Nat) : Int) := fun u u0 u1 hu => by
            have := p3 u u0 u1 (by rw [← hu]; omega)
            rw [← hu] at this
            omega
          rcases (ty_bes_adj (W := W) (C := C) (c := c) (e := e) hW h0 hs.1).mp ha with q | q | q | q
          · exact key 0 (by omega) (by omega) q
          · exact key 1 (by omega) (by omega) q
          · exact key 2 (by omega) (by omega) q
          · exact key 3 (by omega) (by omega) q
    obtain ⟨i1, w2, w3, z4, n2, n3, m4, r1, c1, q1, q2⟩ := tq_215_c hr d l W H C sh t0 k n ia (c + 1) (vI 4) w4 (px_nl_I _) n4 (tq_gr_c hg (ca 123 (by decide))) p4 (fun j hj x x0 x1 hR => by
      by_cases e : x = c
      · rw [e]
        rw [e] at hR
        exact hc0 j (by omega) hR
      · rw [p1 x e]
        exact hL j hj x x0 x1 hR) (by omega) (by omega) (fun j hj x x0 x1 hR => by
      by_cases e : x = c
      · rw [e]
        rw [e] at hR
        exact hc0 j hj hR
      · rw [p1 x e]
        exact hf j hj x x0 (by omega) hR)
    refine ⟨i1, w2, w3, z4, n2, n3, m4, ?_, ty_ch_tr ca c1 rfl rfl, q1, q2⟩
    rw [b215_48 hr _ _ _ _ _ h3 h4, if_neg (by omega), ra, r1]
theorem tq_215_k (hr : px_hr r) (d : Nat) (l : MI) (W H C : Int) (sh : Int → Bool) : ∀ (n k : Nat) (i : MI) (v2 v3 v4 : PV), px_nl v2 → px_nl v3 → px_nl v4 → tq_gr i W H C → tq_I W C sh (i 149) → tq_Lo W C sh k (i 149) → (k : Int) + n = C →
    ∃ i1 : MI, px_X (d + 1 + 1) 215 (38, [vR 123, vI (k : Int), v2, v3, v4], []) (px_sh L, i, l, r, t) = some (none, (px_sh L, i1, l, r, t)) ∧ ty_ch [149] i i1 ∧ tq_I W C sh (i1 149) ∧ tq_Lo W C sh C.toNat (i1 149)
  | 0, k, i, v2, v3, v4, h2, h3, h4, hg, hI, hL, hn => by
    have e2 := hg.2.2.1
    refine ⟨i, ?_, ty_ch_rf, hI, ?_⟩
    · rw [b215_38 hr _ _ _ _ h2 h3 h4, if_pos (by omega)]
    · rw [show C.toNat = k by omega]
      exact hL
  | n + 1, k, i, v2, v3, v4, h2, h3, h4, hg, hI, hL, hn => by
    have e2 := hg.2.2.1
    have hdim := hg.2.2.2.2.2.2
    obtain ⟨ia, w2, w3, w4, n2, n3, n4, ra, ca, pI, pL⟩ := tq_215_c (L := L) (r := r) (t := t) hr d l W H C sh (k : Int) k C.toNat i 0 v3 v4 h3 h4 hg hI hL (by omega) (by omega) (fun j _ x x0 x1 => by omega)
    rw [tg_wc (c := k) (by omega)] at ra
    obtain ⟨i1, r1, c1, q1, q2⟩ := tq_215_k hr d l W H C sh n (k + 1) ia w2 w3 w4 n2 n3 n4 (tq_gr_c hg (ca 123 (by decide))) pI pL (by omega)
    refine ⟨i1, ?_, ty_ch_tr ca c1 rfl rfl, q1, q2⟩
    rw [b215_38 hr _ _ _ _ h2 h3 h4, if_neg (by omega), ra, r1]
/-- laysFar -/
theorem tq_215 (hr : px_hr r) (d : Nat) (i l : MI) {W H C : Int} (sh : Int → Bool) (hg : tq_gr i W H C) (hs : ∀ c, 0 ≤ c → c < C → decide (i 124 (21 + 2 * c) = 1) = sh c) :
    ∃ i1 : MI, px_C (d + 1 + 1) 215 [vR 123] (px_sh L, i, l, r, t) = some (none, (px_sh L, i1, l, r, t)) ∧ ty_ch [149] i i1 ∧ ((∃ s, (0 ≤ s ∧ s < C) ∧ sh s = true) → ∀ c, 0 ≤ c → c < C → tq_far W C sh (i1 149 c) c ∧ i1 149 c ≤ C) ∧ ((∀ s, 0 ≤ s → s < C → sh s = false) → i1 149 0 = 99) := by
  have hg' := hg
  obtain ⟨e0, e1, e2, hC, hW, hH, hdim⟩ := hg'
  obtain ⟨ia, ra, ca, pa⟩ := tq_215_0 (L := L) (r := r) (t := t) hr (d + 1) l C sh hdim.2 C.toNat i 0 e2 hs (by omega) (by omega) (fun x x0 x1 => by omega)
  have hI : tq_I W C sh (ia 149) := fun c c0 c1 => by
    rw [pa c c0 c1]
    by_cases h : sh c = true
    · rw [if_pos h]
      exact ⟨by omega, by omega, fun _ => h⟩
    · rw [if_neg h]
      exact ⟨by omega, by omega, fun q => by omega⟩
  have hL : tq_Lo W C sh 0 (ia 149) := fun j hj c c0 c1 hR => by
    have ej : j = 0 := by omega
    rw [ej] at hR
    have hR' : sh c = true := hR
    rw [pa c c0 c1, if_pos hR']
    omega
  obtain ⟨i1, r1, c1, q1, q2⟩ := tq_215_k (L := L) (r := r) (t := t) hr d l W H C sh C.toNat 0 ia vJ vJ vJ px_nl_J px_nl_J px_nl_J (tq_gr_c hg (ca 123 (by decide))) hI hL (by omega)
  have r1' : px_X (d + 1 + 1) 215 (38, [vR 123, vI 0, vJ, vJ, vJ], []) (px_sh L, ia, l, r, t) = _ := r1
  refine ⟨i1, ?_, ty_ch_tr ca c1 rfl rfl, fun ⟨s, s0, s1⟩ c c0 c1 => ?_, fun hno => ?_⟩
  · rw [e215, b215_0 hr, ra, r1']
  · have hall := tq_con (sh := sh) (s := s) (c := c) hW hH (by rw [← hC]; exact s0) s1 (by rw [← hC]; exact ⟨c0, c1⟩)
    rw [← hC] at hall
    have hle := q2 C.toNat (Nat.le_refl _) c c0 c1 hall
    have hic := q1 c c0 c1
    refine ⟨⟨hic.1, hic.2.2 (by omega), fun j hj => ?_⟩, by omega⟩
    cases hb : tq_R W C sh j c with
    | false => rfl
    | true =>
      have := q2 j (by omega) c c0 c1 hb
      omega
  · have hic := q1 0 (by omega) (by omega)
    by_cases h : i1 149 0 < 99
    · have hR := hic.2.2 h
      rw [tq_none hW hC hno (i1 149 0).toNat 0 (by omega) (by omega)] at hR
      exact absurd hR (by decide)
    · omega
theorem tq_216_s (hr : px_hr r) (d : Nat) (i l : MI) (W H C : Int) (A : Int → Int) (hg : tq_gr i W H C) (c s x2 : Int) (hc : 0 ≤ c ∧ c < C) (hs : s = 0 ∨ s = 1 ∨ s = 2 ∨ s = 3) (hA : ∀ e, 0 ≤ e → e < C → i 149 e = A e) {v4 : PV} (h4 : px_nl v4) :
    ∃ y, px_X (d + 1 + 1) 216 (4, [vR 123, vI c, vI x2, vI s, v4], []) (px_sh L, i, l, r, t) = px_X (d + 1 + 1) 216 (4, [vR 123, vI c, vI y, vI (s + 1), vI (ty_bes W C c s)], []) (px_sh L, i, l, r, t) ∧ (((¬ ty_bes W C c s = -1 ∧ A (ty_bes W C c s) < A c ∧ (x2 = -1 ∨ ty_bes W C c s < x2)) ∧ y = ty_bes W C c s) ∨ (¬ (¬ ty_bes W C c s = -1 ∧ A (ty_bes W C c s) < A c ∧ (x2 = -1 ∨ ty_bes W C c s < x2)) ∧ y = x2)) := by
  have hg' := hg
  obtain ⟨e0, e1, e2, hC, hW, hH, hdim⟩ := hg'
  have hbb := ty_bes_b (W := W) (H := H) (c := c) (s := s) hW (by rw [← hC]; exact hc)
  rw [← hC] at hbb
  have ws : px_w32 (s + 1) = s + 1 := ty_w (by omega)
  rw [b216_4 hr _ _ _ _ _ _ h4, if_neg (by omega), tq_210 hr d i l hg c s hc hs, Option.bind_some, px_psh_some]
  obtain ⟨b, hbe⟩ : ∃ b, b = ty_bes W C c s := ⟨_, rfl⟩
  rw [← hbe] at hbb ⊢
  rw [b216_15 hr _ _ _ _ _ _ h4 _ (fun _ => by omega) (fun _ => by omega), ws]
  by_cases h1 : b = -1
  · exact ⟨x2, by rw [if_pos h1], Or.inr ⟨fun h => h.1 h1, rfl⟩⟩
  · rw [if_neg h1, hA c hc.1 hc.2, hA b (by omega) (by omega)]
    by_cases h2 : A c ≤ A b
    · exact ⟨x2, by rw [if_pos h2], Or.inr ⟨fun h => by omega, rfl⟩⟩
    · rw [if_neg h2]
      by_cases h3 : x2 = -1
      · exact ⟨b, by rw [if_pos h3], Or.inl ⟨⟨h1, by omega, Or.inl h3⟩, rfl⟩⟩
      · rw [if_neg h3]
        by_cases h5 : x2 ≤ b
        · exact ⟨x2, by rw [if_pos h5], Or.inr ⟨fun h => by omega, rfl⟩⟩
        · exact ⟨b, by rw [if_neg h5], Or.inl ⟨⟨h1, by omega, Or.inr (by omega)⟩, rfl⟩⟩
/-- nearer -/
theorem tq_216 (hr : px_hr r) (d : Nat) (i l : MI) (W H C : Int) (A : Int → Int) (hg : tq_gr i W H C) (c : Int) (hc : 0 ≤ c ∧ c < C) (hA : ∀ e, 0 ≤ e → e < C → i 149 e = A e) :
    px_C (d + 1 + 1) 216 [vR 123, vI c] (px_sh L, i, l, r, t) = some (some (vI (tq_aim W C A c)), (px_sh L, i, l, r, t)) := by
  have hg' := hg
  obtain ⟨-, -, -, hC, hW, hH, hdim⟩ := hg'
  obtain ⟨y0, s0, k0⟩ := tq_216_s (L := L) (r := r) (t := t) hr d i l W H C A hg c 0 (-1) hc (by omega) hA px_nl_J
  obtain ⟨y1, s1, k1⟩ := tq_216_s (L := L) (r := r) (t := t) hr d i l W H C A hg c 1 y0 hc (by omega) hA (px_nl_I (ty_bes W C c 0))
  obtain ⟨y2, s2, k2⟩ := tq_216_s (L := L) (r := r) (t := t) hr d i l W H C A hg c 2 y1 hc (by omega) hA (px_nl_I (ty_bes W C c 1))
  obtain ⟨y3, s3, k3⟩ := tq_216_s (L := L) (r := r) (t := t) hr d i l W H C A hg c 3 y2 hc (by omega) hA (px_nl_I (ty_bes W C c 2))
  have s4 := b216_4 (L := L) (t := t) hr (d + 1) i l c y3 4 (px_nl_I (ty_bes W C c 3))
  rw [if_pos (by decide)] at s4
  rw [show (0 : Int) + 1 = 1 from rfl, s1, show (1 : Int) + 1 = 2 from rfl, s2, show (2 : Int) + 1 = 3 from rfl, s3, show (3 : Int) + 1 = 4 from rfl, s4] at s0
  rw [e216, b216_0 hr, s0]
  have f0 : ty_bes W C c 0 = -1 ∨ ty_bes W C c 0 = c - W := by
    show (if W ≤ c then c - W else -1) = -1 ∨ (if W ≤ c then c - W else -1) = c - W
    split <;> omega
  have f1 : ty_bes W C c 1 = -1 ∨ ty_bes W C c 1 = c + 1 := by
    show (if c % W = W - 1 then -1 else c + 1) = -1 ∨ (if c % W = W - 1 then -1 else c + 1) = c + 1
    split <;> omega
  have f2 : ty_bes W C c 2 = -1 ∨ ty_bes W C c 2 = c + W := by
    show (if c + W < C then c + W else -1) = -1 ∨ (if c + W < C then c + W else -1) = c + W
    split <;> omega
  have f3 : ty_bes W C c 3 = -1 ∨ ty_bes W C c 3 = c - 1 := by
    show (if c % W = 0 then -1 else c - 1) = -1 ∨ (if c % W = 0 then -1 else c - 1) = c - 1
    split <;> omega
  have g : ∀ s, ty_bes W C c s = -1 ∨ 0 ≤ ty_bes W C c s := fun s => by
    have h := ty_bes_b (W := W) (H := H) (c := c) (s := s) hW (by rw [← hC]; exact hc)
    rw [← hC] at h
    omega
  have g0 := g 0
  have g1 := g 1
  have g2 := g 2
  have g3 := g 3
  unfold tq_aim
  obtain ⟨b0, e0⟩ : ∃ b, b = ty_bes W C c 0 := ⟨_, rfl⟩
  obtain ⟨b1, e1⟩ : ∃ b, b = ty_bes W C c 1 := ⟨_, rfl⟩
  obtain ⟨b2, e2⟩ : ∃ b, b = ty_bes W C c 2 := ⟨_, rfl⟩
  obtain ⟨b3, e3⟩ : ∃ b, b = ty_bes W C c 3 := ⟨_, rfl⟩
  rw [← e0] at f0 g0 k0
  rw [← e1] at f1 g1 k1
  rw [← e2] at f2 g2 k2
  rw [← e3] at f3 g3 k3
  rw [← e0, ← e1, ← e2, ← e3]
  obtain ⟨a0, q0⟩ : ∃ a, a = A b0 := ⟨_, rfl⟩
  obtain ⟨a1, q1⟩ : ∃ a, a = A b1 := ⟨_, rfl⟩
  obtain ⟨a2, q2⟩ : ∃ a, a = A b2 := ⟨_, rfl⟩
  obtain ⟨a3, q3⟩ : ∃ a, a = A b3 := ⟨_, rfl⟩
  obtain ⟨ac, qc⟩ : ∃ a, a = A c := ⟨_, rfl⟩
  rw [← q0, ← qc] at k0
  rw [← q1, ← qc] at k1
  rw [← q2, ← qc] at k2
  rw [← q3, ← qc] at k3
  rw [← q0, ← q1, ← q2, ← q3, ← qc]
  have fin : y3 = if ¬ b0 = -1 ∧ a0 < ac then b0 else if ¬ b3 = -1 ∧ a3 < ac then b3 else if ¬ b1 = -1 ∧ a1 < ac then b1 else if ¬ b2 = -1 ∧ a2 < ac then b2 else -1 := by
    clear s0 s1 s2 s3 s4 hA
    by_cases c0 : ¬ b0 = -1 ∧ a0 < ac
    · rw [if_pos c0]
      omega
    · rw [if_neg c0]
      by_cases c3 : ¬ b3 = -1 ∧ a3 < ac
      · rw [if_pos c3]
        omega
      · rw [if_neg c3]
        by_cases c1 : ¬ b1 = -1 ∧ a1 < ac
        · rw [if_pos c1]
          omega
        · rw [if_neg c1]
          by_cases c2 : ¬ b2 = -1 ∧ a2 < ac
          · rw [if_pos c2]
            omega
          · rw [if_neg c2]
            omega
  rw [fin]
end TQD
