/-! text: the reference's steps. -/
def tz_KS : List Nat := [132, 133, 134, 135, 136, 137, 138, 139]
def tz_FS : List Int := [15, 16, 17, 18, 19, 20, 21, 22, 25, 28, 29, 30, 33]
/-- what a step leaves -/
def tz_res (K U PL BH : Nat → Int) (T : Int → Int) (N : Int) (m t : Nat) (R : Int ⊕ tz_RS) (j j1 : MI) : Prop := tz_q tz_KS tz_FS j j1 ∧ match R with
  | .inl e => j1 123 19 = e ∧ j1 123 20 = PL t
  | .inr A => tz_RC K U PL BH T N m A j1
theorem tz_pD_st {D : List (Int × List Int)} {st st' kd : Int} {j : MI} (h : ¬ st = 4) (hp : tz_pD D st kd j) : tz_pD D st' kd j := ⟨hp.1, hp.2.1, fun _ => hp.2.2 h⟩
theorem tz_bt_ne {F : List (Int × Int)} (h : tz_bt F) : ∃ (a b : Int) (F' : List (Int × Int)), F = (a, b) :: F' := by
  cases F with
  | nil => exact absurd h id
  | cons x F' => exact ⟨x.1, x.2, F', rfl⟩
theorem tz_k2 {k u s v : Int} (h : tz_tkr k u s v) : (s = 2 ↔ k = 2) ∧ (k = 2 → 0 ≤ u ∧ (u ≤ 9999 → v = u) ∧ (9999 < u → 9999 < v)) := by
  unfold tz_tkr at h
  omega
theorem tz_k1 {k u s v : Int} (h : tz_tkr k u s v) : (s = 1 ↔ 24 ≤ k) ∧ (24 ≤ k → v = k - 24 ∧ k ≤ 47) ∧ 0 ≤ k := by
  unfold tz_tkr at h
  omega
theorem tz_te_num {u v : Int} (h : 0 ≤ u ∧ u ≤ 9999) (e : v = u) : tz_te u 400 v := Or.inr ⟨h.1, Or.inl ⟨h.1, h.2, rfl, e⟩⟩
theorem tz_te_nam {k : Int} (h : 33 ≤ k ∧ k ≤ 47) : tz_te (10000 + k) 401 (k - 33) := Or.inr ⟨by omega, Or.inr (Or.inl ⟨rfl, by omega, by omega, by omega⟩)⟩
section TYPS
variable {L tt : Nat} {r : MR} {K U PL BH : Nat → Int} {T : Int → Int} {N : Int} {m : Nat}
theorem tz_160 (hr : px_hr r) (d : Nat) (j l : MI) (t : Nat) (w : Int) (hw : 0 ≤ w ∧ w ≤ 23) (hT : tz_pT K U PL BH T N m t j) : px_C d 160 [vR 123, vI w] (px_sh L, j, l, r, tt) = some (some (vI (if K t = w + 24 then 1 else 0)), (px_sh L, j, l, r, tt)) := by
  have h := hT.2.2.2.2.2
  unfold tz_tkr at h
  rw [e160, b160_0 hr]
  by_cases hk : K t = w + 24
  · rw [if_pos (by omega), if_pos (by omega), if_pos hk]
  · rw [if_neg hk]
    by_cases h1 : j 123 17 = 1
    · rw [if_pos h1, if_neg (by omega)]
    · rw [if_neg h1]
theorem tz_159 (hr : px_hr r) (d : Nat) (j l : MI) (t : Nat) (s k : Int) (hs : (s = 40 ∧ k = 3) ∨ (s = 41 ∧ k = 4) ∨ (s = 45 ∧ k = 11) ∨ (s = 59 ∧ k = 5)) (hT : tz_pT K U PL BH T N m t j) : px_C d 159 [vR 123, vI s] (px_sh L, j, l, r, tt) = some (some (vI (if K t = k then 1 else 0)), (px_sh L, j, l, r, tt)) := by
  have h := hT.2.2.2.2.2
  unfold tz_tkr at h
  rw [e159, b159_0 hr]
  by_cases hk : K t = k
  · rw [if_pos (by omega), if_pos (by omega), if_pos hk]
  · rw [if_neg hk]
    by_cases h1 : j 123 17 = 3
    · rw [if_pos h1, if_neg (by omega)]
    · rw [if_neg h1]
theorem tz_err (hr : px_hr r) (d : Nat) (j j0 l : MI) (t : Nat) (e : Int) (hq : tz_q tz_KS tz_FS j0 j) (hT : tz_pT K U PL BH T N m t j) (h : j 123 19 = 0) :
    ∃ j1 : MI, px_C d 161 [vR 123, vI e] (px_sh L, j, l, r, tt) = some (none, (px_sh L, j1, l, r, tt)) ∧ tz_res K U PL BH T N m t (.inl e) j0 j1 ∧ tz_pT K U PL BH T N m t j1 ∧ tz_q [] [19, 20] j j1 := by
  have q1 : tz_q [] [19, 20] j (px_up (px_up j 123 19 e) 123 20 (j 123 16)) := tz_q_tr (tz_q_f (Kc := []) (Fs := [19]) (by decide)) (tz_q_f (Kc := []) (Fs := [20]) (by decide)) rfl rfl rfl rfl
  refine ⟨px_up (px_up j 123 19 e) 123 20 (j 123 16), tz_161 hr _ _ _ _ h, ⟨tz_q_tr hq q1 rfl rfl rfl rfl, ?_, ?_⟩, tz_pT_q q1 rfl rfl hT, q1⟩
  · rw [ty_up_j (by decide), ty_up_eq]
  · rw [ty_up_eq]
    exact hT.2.2.2.2.1
/-- asks -/
theorem tz_169 (hr : px_hr r) (hX : tz_NX K U PL BH T N m) (hK : ∀ t, t ≤ m → (K t = 0 ↔ t = m)) (d : Nat) (j l : MI) (t : Nat) (o : Int) (F : List (Int × Int)) (W : List (Int × Nat)) (C : List Int) (D : List (Int × List Int)) (kd : Int) (hb : tz_bd m (t, o, F, W, 0, C, D, kd)) (h : tz_RC K U PL BH T N m (t, o, F, W, 0, C, D, kd) j) :
    ∃ j1 : MI, px_C (d + 5) 169 [vR 123] (px_sh L, j, l, r, tt) = some (none, (px_sh L, j1, l, r, tt)) ∧ tz_res K U PL BH T N m t (tz_s0 K t o F W C D kd) j j1 := by
  obtain ⟨hT, hF, hW, hC, hD, h19, h20, h21, h28⟩ := h
  obtain ⟨⟨b1, b2, b3, b4, b5⟩, b6, b7, b8⟩ := hb
  unfold tz_s0
  show ∃ j1 : MI, px_C (d + 3 + 1 + 1) 169 [vR 123] _ = _ ∧ _
  rw [e169, b169_0 hr, tz_160 hr _ _ _ t 8 (by omega) hT, Option.bind_some, px_psh_some, b169_6 hr, show (8 : Int) + 24 = 32 from rfl]
  by_cases h1 : K t = 32
  · rw [if_pos h1, if_neg (by omega), if_pos h1]
    by_cases h2 : o = 8
    · rw [if_pos h2]
      obtain ⟨j1, r1, c1, -, -⟩ := tz_err (L := L) (r := r) (tt := tt) hr d j j l t 3 tz_q_rf hT h19
      have r2 := tz_165e (L := L) (r := r) (tt := tt) hr (d + 3) j l 3 (by rw [h21]; exact h2) h19
      have r3 := tz_161 (L := L) (r := r) (tt := tt) hr d j l 3 h19
      rw [r1] at r3
      refine ⟨j1, ?_, c1⟩
      have ej : j1 = px_up (px_up j 123 19 3) 123 20 (j 123 16) := by
        have := Option.some.inj r3
        exact congrArg (fun q => q.2.2.1) this
      rw [r2, Option.bind_some, px_psh_some, b169_14 hr, ej]
    · rw [if_neg h2]
      obtain ⟨j1, r1, t1, f1, o1, q1⟩ := tz_165 (L := L) (r := r) (tt := tt) hr hX d j l F 3 o hT (by have := hK t b1; omega) hF (by omega) (by omega) h21 (by omega) h2
      refine ⟨j1, ?_, tz_q_w q1 rfl rfl, t1, f1, tz_pW_q q1 rfl rfl hW, tz_pC_q q1 rfl rfl hC, tz_pD_q q1 rfl rfl hD, tz_pf_q q1 rfl h19, tz_pf_q q1 rfl h20, o1, tz_pf_q q1 rfl h28⟩
      rw [r1, Option.bind_some, px_psh_some, b169_14 hr]
  · rw [if_neg h1, if_pos rfl, if_neg h1]
    obtain ⟨j1, r1, f1, q1⟩ := tz_163 (L := L) (r := r) (tt := tt) hr (d + 3 + 1) j l F 4 hF (by omega) (by omega)
    have q2 : tz_q [132] [22, 28] j (px_up j1 123 28 1) := tz_q_tr q1 (tz_q_f (Kc := []) (Fs := [28]) (by decide)) rfl rfl rfl rfl
    have q3 : tz_q [] [28] j1 (px_up j1 123 28 1) := tz_q_f (by decide)
    refine ⟨px_up j1 123 28 1, ?_, tz_q_w q2 rfl rfl, tz_pT_q q2 rfl rfl hT, tz_pF_q q3 rfl rfl f1, tz_pW_q q2 rfl rfl hW, tz_pC_q q2 rfl rfl hC, tz_pD_st (by omega) (tz_pD_q q2 rfl rfl hD), tz_pf_q q2 rfl h19, tz_pf_q q2 rfl h20, tz_pf_q q2 rfl h21, ty_up_eq⟩
    rw [r1, Option.bind_some, px_psh_none, b169_23 hr]
theorem tz_170 (hr : px_hr r) (d : Nat) (j l : MI) (kd n : Int) (h : j 123 30 = kd) : px_C (d + 1) 170 [vR 123, vI n] (px_sh L, j, l, r, tt) = some (some (vI (if tz_mb kd n = true then 1 else 0)), (px_sh L, j, l, r, tt)) := by
  have e01 : ∀ c : Prop, ∀ [Decidable c], px_X (d + 1) 170 (132, [vR 123, vI n], [vI (px_bi c)]) (px_sh L, j, l, r, tt) = some (some (vI (if decide c = true then 1 else 0)), (px_sh L, j, l, r, tt)) := fun c _ => by
    rw [b170_132 hr]
    by_cases hc : c
    · rw [px_bi_T hc, if_neg (by omega), decide_eq_true hc, if_pos rfl]
    · rw [px_bi_F hc, if_pos rfl, decide_eq_false hc, if_neg (by decide)]
  have e02 : ∀ c : Prop, ∀ [Decidable c], px_X (d + 1) 170 (74, [vR 123, vI n], [vI (px_bi c)]) (px_sh L, j, l, r, tt) = some (some (vI (if decide c = true then 1 else 0)), (px_sh L, j, l, r, tt)) := fun c _ => by
    rw [b170_74 hr]
    by_cases hc : c
    · rw [px_bi_T hc, if_neg (by omega), decide_eq_true hc, if_pos rfl]
    · rw [px_bi_F hc, if_pos rfl, decide_eq_false hc, if_neg (by decide)]
  have ed : ∀ c : Prop, ∀ [Decidable c], (if decide c = true then (1 : Int) else 0) = if c then 1 else 0 := fun c _ => by
    by_cases hc : c
    · rw [if_pos hc, if_pos (decide_eq_true hc)]
    · rw [if_neg hc, if_neg (fun h => hc (of_decide_eq_true h))]
  rw [e170, b170_0 hr, h]
  unfold tz_mb
  by_cases k0 : kd = 0
  · rw [if_pos k0, if_pos k0, ed]
    by_cases hn : n < 3
    · rw [if_neg (by omega), if_pos hn]
    · rw [if_pos (by omega), if_neg hn]
  · rw [if_neg k0, if_neg k0]
    have dflt : (if n = 0 then some (some (vI 1), (px_sh L, j, l, r, tt)) else (px_C d 141 [vI n, vI 3, vI 9] (px_sh L, j, l, r, tt)).bind (fun q => px_X (d + 1) 170 (px_psh (132, [vR 123, vI n], []) q.1) q.2)) = some (some (vI (if decide (n = 0 ∨ (3 ≤ n ∧ n ≤ 9)) = true then 1 else 0)), (px_sh L, j, l, r, tt)) := by
      rw [ed]
      by_cases hn : n = 0
      · rw [if_pos hn, if_pos (Or.inl hn)]
      · rw [if_neg hn, q141 hr, Option.bind_some, px_psh_some, e01, ed]
        by_cases h2 : 3 ≤ n ∧ n ≤ 9
        · rw [if_pos h2, if_pos (Or.inr h2)]
        · rw [if_neg h2, if_neg (by omega)]
    by_cases k1 : kd = 1
    · rw [if_pos k1, if_neg (show ¬ kd = 2 by omega), if_neg (show ¬ kd = 3 by omega), if_neg (show ¬ kd = 5 by omega)]
      exact dflt
    · rw [if_neg k1]
      by_cases k2 : kd = 2
      · rw [if_pos k2, if_pos k2, ed]
        by_cases h3 : n = 3
        · rw [if_pos h3, if_pos (by omega)]
        · rw [if_neg h3]
          by_cases h6 : n = 6
          · rw [if_pos h6, if_pos (by omega)]
          · rw [if_neg h6, q141 hr, Option.bind_some, px_psh_some, e02, ed]
            by_cases h7 : 11 ≤ n ∧ n ≤ 13
            · rw [if_pos h7, if_pos (by omega)]
            · rw [if_neg h7, if_neg (by omega)]
      · rw [if_neg k2, if_neg k2]
        by_cases k3 : kd = 3
        · rw [if_pos k3, if_pos k3, ed]
          by_cases h3 : n = 14
          · rw [if_pos h3, if_pos h3]
          · rw [if_neg h3, if_neg h3]
        · rw [if_neg k3, if_neg k3]
          by_cases k4 : kd = 4
          · rw [if_pos k4, if_neg (show ¬ kd = 5 by omega)]
            exact dflt
          · rw [if_neg k4]
            by_cases k5 : kd = 5
            · rw [if_pos k5, if_pos k5, ed]
              by_cases h0 : n = 0
              · rw [if_pos h0, if_pos (by omega)]
              · rw [if_neg h0]
                by_cases h3 : n = 3
                · rw [if_pos h3, if_pos (by omega)]
                · rw [if_neg h3]
                  by_cases h5 : n = 5
                  · rw [if_pos h5, if_pos (by omega)]
                  · rw [if_neg h5]
                    by_cases h10 : n = 10
                    · rw [if_pos h10, if_pos (by omega)]
                    · rw [if_neg h10, if_neg (by omega)]
            · rw [if_neg k5, if_neg k5]
              exact dflt
/-- a number or a name is put down -/
theorem tz_put1 (hr : px_hr r) (hX : tz_NX K U PL BH T N m) (d : Nat) (j l : MI) (t : Nat) (ht : t < m) (o : Int) (F : List (Int × Int)) (W : List (Int × Nat)) (C : List Int) (D : List (Int × List Int)) (kd c op v : Int) (hc : tz_te c op v) (hb : tz_bd m (t, o, F, W, 1, C, D, kd)) (h : tz_RC K U PL BH T N m (t, o, F, W, 1, C, D, kd) j) :
    ∃ j1 j2 j3 : MI, px_C (d + 4) 162 [vR 123, vI op, vI v] (px_sh L, j, l, r, tt) = some (none, (px_sh L, j1, l, r, tt)) ∧ px_C (d + 4) 158 [vR 123] (px_sh L, j1, l, r, tt) = some (none, (px_sh L, j2, l, r, tt)) ∧ px_C (d + 4) 172 [vR 123] (px_sh L, j2, l, r, tt) = some (none, (px_sh L, j3, l, r, tt)) ∧ tz_res K U PL BH T N m t (.inr (tz_o1 (t + 1) o F W (c :: C) D kd)) j j3 := by
  obtain ⟨hT, hF, hW, hC, hD, h19, h20, h21, h28⟩ := h
  obtain ⟨⟨b1, b2, b3, b4, b5⟩, b6, b7, b8⟩ := hb
  have hbt : tz_bt F := by
    rcases b8 with b8 | b8
    · exact b8.2.1
    · omega
  obtain ⟨j1, r1, c1, q1⟩ := tz_162 (L := L) (r := r) (tt := tt) hr (d + 4) j l (C ++ tz_fl D) c op v hC (by omega) hc
  obtain ⟨j2, r2, t2, q2⟩ := hX L tt r hr (d + 1) j1 l t ht (tz_pT_q q1 rfl rfl hT)
  have q12 : tz_q [138, 139] [15, 16, 17, 18, 33] j j2 := tz_q_tr q1 q2 rfl rfl rfl rfl
  have c2 : tz_pC ((c :: C) ++ tz_fl D) j2 := tz_pC_q q2 rfl rfl c1
  obtain ⟨j3, r3, f3, c3, o3, s3, q3⟩ := tz_172 (L := L) (r := r) (tt := tt) hr (d + 3) j2 l F (c :: C) (tz_fl D) o (tz_pF_q q12 rfl rfl hF) c2 (tz_pf_q q12 rfl h21) (by omega) hbt (by omega) (by rw [List.cons_append, List.length_cons]; omega)
  have q13 : tz_q [138, 139] [15, 16, 17, 18, 21, 22, 28, 33] j j3 := tz_q_tr q12 q3 rfl rfl rfl rfl
  exact ⟨j1, j2, j3, r1, r2, r3, tz_q_w q13 rfl rfl, tz_pT_q q3 rfl rfl t2, f3, tz_pW_q q13 rfl rfl hW, c3, tz_pD_st (by omega) (tz_pD_q q13 rfl rfl hD), tz_pf_q q13 rfl h19, tz_pf_q q13 rfl h20, o3, s3⟩
theorem tz_open1 (hr : px_hr r) (hX : tz_NX K U PL BH T N m) (d : Nat) (j l : MI) (t : Nat) (ht : t < m) (o : Int) (F : List (Int × Int)) (W : List (Int × Nat)) (C : List Int) (D : List (Int × List Int)) (kd a : Int) (ha : ¬ a = 5) (hb : tz_bd m (t, o, F, W, 1, C, D, kd)) (h : tz_RC K U PL BH T N m (t, o, F, W, 1, C, D, kd) j) :
    ∃ (j1 : MI) (v : Int), px_C (d + 4) 165 [vR 123, vI a] (px_sh L, j, l, r, tt) = some (some (vI v), (px_sh L, j1, l, r, tt)) ∧ tz_res K U PL BH T N m t (if o = 8 then .inl 3 else .inr (t + 1, o + 1, (a, 0) :: F, W, 1, C, D, kd)) j j1 := by
  obtain ⟨hT, hF, hW, hC, hD, h19, h20, h21, h28⟩ := h
  obtain ⟨⟨b1, b2, b3, b4, b5⟩, b6, b7, b8⟩ := hb
  by_cases h2 : o = 8
  · rw [if_pos h2]
    obtain ⟨j1, r1, c1, -, -⟩ := tz_err (L := L) (r := r) (tt := tt) hr d j j l t 3 tz_q_rf hT h19
    have r2 := tz_165e (L := L) (r := r) (tt := tt) hr (d + 3) j l a (by rw [h21]; exact h2) h19
    have r3 := tz_161 (L := L) (r := r) (tt := tt) hr d j l 3 h19
    rw [r1] at r3
    have ej : j1 = px_up (px_up j 123 19 3) 123 20 (j 123 16) := by
      have := Option.some.inj r3
      exact congrArg (fun q => q.2.2.1) this
    exact ⟨j1, 0, by rw [ej]; exact r2, c1⟩
  · rw [if_neg h2]
    obtain ⟨j1, r1, t1, f1, o1, q1⟩ := tz_165 (L := L) (r := r) (tt := tt) hr hX d j l F a o hT ht hF (by omega) ha h21 (by omega) h2
    exact ⟨j1, 1, r1, tz_q_w q1 rfl rfl, t1, f1, tz_pW_q q1 rfl rfl hW, tz_pC_q q1 rfl rfl hC, tz_pD_q q1 rfl rfl hD, tz_pf_q q1 rfl h19, tz_pf_q q1 rfl h20, o1, tz_pf_q q1 rfl h28⟩
/-- begins -/
theorem tz_171 (hr : px_hr r) (hX : tz_NX K U PL BH T N m) (hK : ∀ t, t ≤ m → (K t = 0 ↔ t = m)) (d : Nat) (j l : MI) (t : Nat) (o : Int) (F : List (Int × Int)) (W : List (Int × Nat)) (C : List Int) (D : List (Int × List Int)) (kd : Int) (hb : tz_bd m (t, o, F, W, 1, C, D, kd)) (h : tz_RC K U PL BH T N m (t, o, F, W, 1, C, D, kd) j) :
    ∃ j1 : MI, px_C (d + 5) 171 [vR 123] (px_sh L, j, l, r, tt) = some (none, (px_sh L, j1, l, r, tt)) ∧ tz_res K U PL BH T N m t (tz_s1 K U t o F W C D kd) j j1 := by
  have h' := h
  have hb' := hb
  obtain ⟨hT, hF, hW, hC, hD, h19, h20, h21, h28⟩ := h
  obtain ⟨⟨b1, b2, b3, b4, b5⟩, b6, b7, b8⟩ := hb
  have hk2 := tz_k2 hT.2.2.2.2.2
  have hk1 := tz_k1 hT.2.2.2.2.2
  have hk0 := hK t b1
  unfold tz_s1
  show ∃ j1 : MI, px_C (d + 4 + 1) 171 [vR 123] _ = _ ∧ _
  have tail : ¬ K t = 2 → ¬ 33 ≤ K t → ∃ j1 : MI, px_X (d + 4 + 1) 171 (112, [vR 123, vJ], []) (px_sh L, j, l, r, tt) = some (none, (px_sh L, j1, l, r, tt)) ∧ tz_res K U PL BH T N m t (if K t = 3 then (if o = 8 then .inl 3 else .inr (t + 1, o + 1, (6, 0) :: F, W, 1, C, D, kd)) else if K t = 11 then (if o = 8 then .inl 3 else .inr (t + 1, o + 1, (7, 0) :: F, W, 1, C, D, kd)) else .inl 1) j j1 := fun n2 n33 => by
    rw [b171_112 hr, tz_159 hr _ _ _ t 40 3 (by omega) hT, Option.bind_some, px_psh_some, b171_118 hr]
    by_cases h3 : K t = 3
    · obtain ⟨j1, v, r1, c1⟩ := tz_open1 (L := L) (r := r) (tt := tt) hr hX d j l t (by omega) o F W C D kd 6 (by omega) hb' h'
      rw [if_pos h3, if_neg (by omega), if_pos h3, r1, Option.bind_some, px_psh_some, b171_127 hr]
      exact ⟨j1, rfl, c1⟩
    · rw [if_neg h3, if_pos rfl, if_neg h3, tz_159 hr _ _ _ t 45 11 (by omega) hT, Option.bind_some, px_psh_some, b171_137 hr]
      by_cases h11 : K t = 11
      · obtain ⟨j1, v, r1, c1⟩ := tz_open1 (L := L) (r := r) (tt := tt) hr hX d j l t (by omega) o F W C D kd 7 (by omega) hb' h'
        rw [if_pos h11, if_neg (by omega), if_pos h11, r1, Option.bind_some, px_psh_some, b171_146 hr]
        exact ⟨j1, rfl, c1⟩
      · obtain ⟨j1, r1, c1, -, -⟩ := tz_err (L := L) (r := r) (tt := tt) hr (d + 4) j j l t 1 tz_q_rf hT h19
        rw [if_neg h11, if_pos rfl, if_neg h11, r1, Option.bind_some, px_psh_none, b171_155 hr]
        exact ⟨j1, rfl, c1⟩
  rw [e171, b171_0 hr]
  by_cases h2 : K t = 2
  · rw [if_pos h2, if_pos (by omega)]
    by_cases h3 : 9999 < U t
    · obtain ⟨j1, r1, c1, -, -⟩ := tz_err (L := L) (r := r) (tt := tt) hr (d + 4) j j l t 2 tz_q_rf hT h19
      rw [if_pos h3, if_neg (by omega), r1, Option.bind_some, px_psh_none, b171_23 hr]
      exact ⟨j1, rfl, c1⟩
    · obtain ⟨j1, j2, j3, r1, r2, r3, c3⟩ := tz_put1 (L := L) (r := r) (tt := tt) hr hX d j l t (by omega) o F W C D kd (U t) 400 (j 123 18) (tz_te_num (by omega) (by omega)) hb' h'
      rw [if_neg h3, if_pos (by omega), r1, Option.bind_some, px_psh_none, b171_35 hr, r2, Option.bind_some, px_psh_none, b171_39 hr, r3, Option.bind_some, px_psh_none, b171_43 hr]
      exact ⟨j3, rfl, c3⟩
  · rw [if_neg h2, if_neg (by omega)]
    by_cases h33 : 33 ≤ K t
    · have w : px_w32 (px_w32 (j 123 18 - 8) - 1) = K t - 33 := by rw [ty_w (x := j 123 18 - 8) (by omega), ty_w (by omega)]; omega
      rw [if_pos h33, if_pos (by omega), if_neg (by omega), w, tz_170 hr _ _ _ kd _ (hD.2.2 (by omega)).1, Option.bind_some, px_psh_some, b171_76 hr, w]
      by_cases hm : tz_mb kd (K t - 33) = true
      · obtain ⟨j1, j2, j3, r1, r2, r3, c3⟩ := tz_put1 (L := L) (r := r) (tt := tt) hr hX d j l t (by omega) o F W C D kd (10000 + K t) 401 (K t - 33) (tz_te_nam (by omega)) hb' h'
        rw [if_pos hm, if_neg (by omega), if_pos hm, r1, Option.bind_some, px_psh_none, b171_101 hr, r2, Option.bind_some, px_psh_none, b171_105 hr, r3, Option.bind_some, px_psh_none, b171_109 hr]
        exact ⟨j3, rfl, c3⟩
      · obtain ⟨j1, r1, c1, -, -⟩ := tz_err (L := L) (r := r) (tt := tt) hr (d + 4) j j l t 5 tz_q_rf hT h19
        rw [if_neg hm, if_pos rfl, if_neg hm, r1, Option.bind_some, px_psh_none, b171_84 hr]
        exact ⟨j1, rfl, c1⟩
    · have go := tail h2 h33
      rw [if_neg h33]
      by_cases h1 : j 123 17 = 1
      · rw [if_pos h1, if_pos (by omega)]
        exact go
      · rw [if_neg h1]
        exact go
end TYPS
