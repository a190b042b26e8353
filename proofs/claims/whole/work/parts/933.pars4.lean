/-! text: the reference's steps 2, 3 and 4. -/
theorem tz_kop {k u s v : Int} (h : tz_tkr k u s v) : (10 ≤ k ∧ k ≤ 13 ↔ s = 3 ∧ (v = 43 ∨ v = 45 ∨ v = 42 ∨ v = 47)) ∧ (10 ≤ k → k ≤ 13 → (k = 10 ∧ v = 43) ∨ (k = 11 ∧ v = 45) ∨ (k = 12 ∧ v = 42) ∨ (k = 13 ∧ v = 47)) := by
  unfold tz_tkr at h
  omega
theorem tz_kas {k u s v : Int} (h : tz_tkr k u s v) : (14 ≤ k ∧ k ≤ 19 ↔ s = 3 ∧ (v = 60 ∨ v = 62 ∨ v = 61 ∨ v = 35 ∨ v = 300 ∨ v = 301)) ∧ (14 ≤ k → k ≤ 19 → (k = 14 ∧ v = 60) ∨ (k = 15 ∧ v = 300) ∨ (k = 16 ∧ v = 62) ∨ (k = 17 ∧ v = 301) ∨ (k = 18 ∧ v = 61) ∨ (k = 19 ∧ v = 35)) := by
  unfold tz_tkr at h
  omega
theorem tz_tok_op {k v : Int} (h : (k = 10 ∧ v = 43) ∨ (k = 11 ∧ v = 45) ∨ (k = 12 ∧ v = 42) ∨ (k = 13 ∧ v = 47)) : ty_tok (10000 + k) v 0 := by
  rcases h with ⟨rfl, rfl⟩ | ⟨rfl, rfl⟩ | ⟨rfl, rfl⟩ | ⟨rfl, rfl⟩ <;> unfold ty_tok <;> decide
theorem tz_tok_as {k v : Int} (h : (k = 14 ∧ v = 60) ∨ (k = 15 ∧ v = 300) ∨ (k = 16 ∧ v = 62) ∨ (k = 17 ∧ v = 301) ∨ (k = 18 ∧ v = 61) ∨ (k = 19 ∧ v = 35)) : ty_tok (10000 + k) v 0 := by
  rcases h with ⟨rfl, rfl⟩ | ⟨rfl, rfl⟩ | ⟨rfl, rfl⟩ | ⟨rfl, rfl⟩ | ⟨rfl, rfl⟩ | ⟨rfl, rfl⟩ <;> unfold ty_tok <;> decide
theorem tz_tok_ao {k v : Int} (h : (k = 30 ∧ v = 407) ∨ (k = 31 ∧ v = 406)) : ty_tok (10000 + k) v 0 := by
  rcases h with ⟨rfl, rfl⟩ | ⟨rfl, rfl⟩ <;> unfold ty_tok <;> decide
section TYPT
variable {L tt : Nat} {r : MR} {K U PL BH : Nat → Int} {T : Int → Int} {N : Int} {m : Nat}
theorem tz_174 (hr : px_hr r) (d : Nat) (j l : MI) (v : Int) : px_C d 174 [vI v] (px_sh L, j, l, r, tt) = some (some (vI (if (v = 60 ∨ v = 62 ∨ v = 61 ∨ v = 35 ∨ v = 300 ∨ v = 301) then 1 else 0)), (px_sh L, j, l, r, tt)) := by
  rw [e174, b174_0 hr]
  by_cases h1 : v = 60
  · rw [if_pos h1, if_pos (by omega)]
  · rw [if_neg h1]
    by_cases h2 : v = 62
    · rw [if_pos h2, if_pos (by omega)]
    · rw [if_neg h2]
      by_cases h3 : v = 61
      · rw [if_pos h3, if_pos (by omega)]
      · rw [if_neg h3]
        by_cases h4 : v = 35
        · rw [if_pos h4, if_pos (by omega)]
        · rw [if_neg h4]
          by_cases h5 : v = 300
          · rw [if_pos h5, if_pos (by omega)]
          · rw [if_neg h5]
            by_cases h6 : v = 301
            · rw [if_pos h6, if_pos (by omega)]
            · rw [if_neg h6, if_neg (by omega)]
/-- a clause is over -/
theorem tz_177 (hr : px_hr r) (hX : tz_NX K U PL BH T N m) (d : Nat) (j l : MI) (t : Nat) (ht : t < m) (o : Int) (F : List (Int × Int)) (W : List (Int × Nat)) (st : Int) (hst : ¬ st = 4) (C : List Int) (D : List (Int × List Int)) (kd : Int) (hb : tz_bd m (t, o, F, W, st, C, D, kd)) (h : tz_RC K U PL BH T N m (t, o, F, W, st, C, D, kd) j) :
    ∃ j1 : MI, px_C (d + 4) 177 [vR 123] (px_sh L, j, l, r, tt) = some (none, (px_sh L, j1, l, r, tt)) ∧ tz_res K U PL BH T N m t (.inr (tz_co (t + 1) o F W C D kd)) j j1 := by
  obtain ⟨hT, hF, hW, hC, hD, h19, h20, h21, h28⟩ := h
  obtain ⟨⟨b1, b2, b3, b4, b5⟩, b6, b7, b8⟩ := hb
  have hlen := tz_wk_len F.length 1 W C
  rw [List.length_append] at b6
  obtain ⟨j1, r1, w1, c1, q1⟩ := tz_167 (L := L) (r := r) (tt := tt) hr (d + 2) j l 1 F W C (tz_fl D) hW hC hF (by omega) (by rw [List.length_append]; omega)
  obtain ⟨C2, hC2⟩ : ∃ C2, C2 = (tz_wk F.length 1 W C).2 := ⟨_, rfl⟩
  rw [← hC2] at c1 hlen
  have q2 : tz_q [] [22] j1 (px_up j1 123 22 0) := tz_q_f (by decide)
  obtain ⟨j2, r2, c2, q3⟩ := tz_162 (L := L) (r := r) (tt := tt) hr (d + 3) (px_up j1 123 22 0) l (C2 ++ tz_fl D) (-1) 408 0 (tz_pC_q q2 rfl rfl c1) (by rw [List.length_append]; omega) (Or.inl ⟨rfl, rfl⟩)
  have qa : tz_q [138, 139] [22, 25, 33] j j2 := tz_q_tr (tz_q_tr q1 q2 (Kc'' := [138, 139]) (Fs'' := [22, 25, 33]) rfl rfl rfl rfl) q3 rfl rfl rfl rfl
  have hD2 := tz_pD_q qa rfl rfl hD
  have w : px_w32 ((D.length : Int) + 1) = (D.length : Int) + 1 := ty_w (by omega)
  obtain ⟨j3, hj3⟩ : ∃ j3 : MI, j3 = px_up j2 123 29 ((D.length : Int) + 1) := ⟨_, rfl⟩
  have q4 : tz_q [] [29] j2 j3 := by
    rw [hj3]
    exact tz_q_f (by decide)
  have qb : tz_q [138, 139] [22, 25, 29, 33] j j3 := tz_q_tr qa q4 rfl rfl rfl rfl
  obtain ⟨j4, r4, t4, q5⟩ := hX L tt r hr d j3 l t ht (tz_pT_q qb rfl rfl hT)
  have q6 : tz_q [] [28] j4 (px_up j4 123 28 4) := tz_q_f (by decide)
  have qc : tz_q [138, 139] [15, 16, 17, 18, 22, 25, 28, 29, 33] j (px_up j4 123 28 4) := tz_q_tr (tz_q_tr qb q5 (Kc'' := [138, 139]) (Fs'' := [15, 16, 17, 18, 22, 25, 29, 33]) rfl rfl rfl rfl) q6 rfl rfl rfl rfl
  have q36 : tz_q [] [15, 16, 17, 18, 28, 29] j2 (px_up j4 123 28 4) := tz_q_tr (tz_q_tr q4 q5 (Kc'' := []) (Fs'' := [15, 16, 17, 18, 29]) rfl rfl rfl rfl) q6 rfl rfl rfl rfl
  have q26 : tz_q [138, 139] [15, 16, 17, 18, 28, 29, 33] (px_up j1 123 22 0) (px_up j4 123 28 4) := tz_q_tr q3 q36 rfl rfl rfl rfl
  have q16 : tz_q [138, 139] [15, 16, 17, 18, 22, 28, 29, 33] j1 (px_up j4 123 28 4) := tz_q_tr q2 q26 rfl rfl rfl rfl
  have hst3 := hD2.2.2 hst
  refine ⟨px_up j4 123 28 4, ?_, tz_q_w qc rfl rfl, tz_pT_q q6 rfl rfl t4, ⟨?_, trivial⟩, tz_pW_q q16 rfl rfl w1, ?_, ⟨?_, ?_, fun h => absurd rfl h⟩, tz_pf_q qc rfl h19, tz_pf_q qc rfl h20, tz_pf_q qc rfl h21, ty_up_eq⟩
  · show px_C (d + 3 + 1) 177 _ _ = _
    rw [e177, b177_0 hr, r1, Option.bind_some, px_psh_none, b177_5 hr, r2, Option.bind_some, px_psh_none, b177_18 hr, hD2.1, w, ← hj3, r4, Option.bind_some, px_psh_none, b177_32 hr]
  · exact tz_pf_q q26 rfl ty_up_eq
  · have hc3 := tz_pC_q q36 rfl rfl c2
    rw [hC2] at hc3
    exact hc3
  · rw [ty_up_j (by decide), q5.2 29 (by decide), hj3, ty_up_eq, List.length_cons]
    omega
  · have e136 : (px_up j4 123 28 4) 136 = j2 136 := q36.1 136 (by decide) (by decide)
    have e137 : (px_up j4 123 28 4) 137 = j2 137 := q36.1 137 (by decide) (by decide)
    unfold tz_hD
    rw [e136, e137]
    exact ⟨⟨hst3.2.1, hst3.2.2⟩, hD2.2.1⟩
/-- goesOn -/
theorem tz_175 (hr : px_hr r) (hX : tz_NX K U PL BH T N m) (hK : ∀ t, t ≤ m → (K t = 0 ↔ t = m)) (d : Nat) (j l : MI) (t : Nat) (o : Int) (F : List (Int × Int)) (W : List (Int × Nat)) (C : List Int) (D : List (Int × List Int)) (kd : Int) (hb : tz_bd m (t, o, F, W, 2, C, D, kd)) (h : tz_RC K U PL BH T N m (t, o, F, W, 2, C, D, kd) j) :
    ∃ j1 : MI, px_C (d + 5) 175 [vR 123] (px_sh L, j, l, r, tt) = some (none, (px_sh L, j1, l, r, tt)) ∧ tz_res K U PL BH T N m t (tz_s2 K t o F W C D kd) j j1 := by
  have h' := h
  have hb' := hb
  obtain ⟨hT, hF, hW, hC, hD, h19, h20, h21, h28⟩ := h
  obtain ⟨⟨b1, b2, b3, b4, b5⟩, b6, b7, b8⟩ := hb
  have hbt : tz_bt F := by
    rcases b8 with b8 | b8
    · exact b8.2.1
    · omega
  rw [List.length_append] at b6
  obtain ⟨a, c, F', rfl⟩ := tz_bt_ne hbt
  have ehd : (((a, c) :: F').headD (0, 0)).1 = a := rfl
  have ehd2 : (((a, c) :: F').headD (0, 0)).2 = c := rfl
  have etl : ((a, c) :: F').tail = F' := rfl
  rw [List.length_cons] at b4 b6
  have hk0 := hK t b1
  have hop := tz_kop hT.2.2.2.2.2
  have has := tz_kas hT.2.2.2.2.2
  have hbt' : ¬ a = 1 → ¬ a = 2 → tz_bt F' := fun h1 h2 => by
    rcases hbt with h | h
    · omega
    · exact h
  unfold tz_s2
  rw [ehd, ehd2, etl]
  show ∃ j1 : MI, px_C (d + 4 + 1) 175 [vR 123] _ = _ ∧ _
  have e4 : px_X (d + 4 + 1) 175 (4, [vR 123, vJ, vJ], [vI a]) (px_sh L, j, l, r, tt) = if 10 ≤ K t ∧ K t ≤ 13 then px_X (d + 4 + 1) 175 (49, [vR 123, vI a, vJ], []) (px_sh L, j, l, r, tt) else px_X (d + 4 + 1) 175 (65, [vR 123, vI a, vJ], []) (px_sh L, j, l, r, tt) := by
    rw [b175_4 hr]
    by_cases hc : 10 ≤ K t ∧ K t ≤ 13
    · rw [if_pos hc]
      obtain ⟨g1, g2⟩ := hop.1.mp hc
      rw [if_pos g1]
      by_cases g3 : j 123 18 = 43
      · rw [if_pos g3]
      · rw [if_neg g3]
        by_cases g4 : j 123 18 = 45
        · rw [if_pos g4]
        · rw [if_neg g4]
          by_cases g5 : j 123 18 = 42
          · rw [if_pos g5]
          · rw [if_neg g5, if_pos (by omega)]
    · rw [if_neg hc]
      by_cases g1 : j 123 17 = 3
      · have g2 : ¬ (j 123 18 = 43 ∨ j 123 18 = 45 ∨ j 123 18 = 42 ∨ j 123 18 = 47) := fun g => hc (hop.1.mpr ⟨g1, g⟩)
        rw [if_pos g1, if_neg (fun g => g2 (Or.inl g)), if_neg (fun g => g2 (Or.inr (Or.inl g))), if_neg (fun g => g2 (Or.inr (Or.inr (Or.inl g)))), if_neg (fun g => g2 (Or.inr (Or.inr (Or.inr g))))]
      · rw [if_neg g1]
  rw [e175, b175_0 hr, tz_164 hr _ _ _ a c F' hF (by omega), Option.bind_some, px_psh_some, e4]
  by_cases hc : 10 ≤ K t ∧ K t ≤ 13
  · rw [if_pos hc, if_pos hc]
    obtain ⟨j1, r1, t1, w1, c1, q1⟩ := tz_168 (L := L) (r := r) (tt := tt) hr hX d j l ((a, c) :: F') W C (tz_fl D) (K t) (j 123 18) (Or.inr (Or.inr hc)) (tz_tok_op (hop.2 hc.1 hc.2)) hT (by omega) hF hW hC (by omega) (by rw [List.length_append]; omega)
    have q2 : tz_q [] [28] j1 (px_up j1 123 28 1) := tz_q_f (by decide)
    have q3 : tz_q [134, 135, 138, 139] [15, 16, 17, 18, 25, 28, 33] j (px_up j1 123 28 1) := tz_q_tr q1 q2 rfl rfl rfl rfl
    refine ⟨px_up j1 123 28 1, ?_, tz_q_w q3 rfl rfl, tz_pT_q q2 rfl rfl t1, tz_pF_q q3 rfl rfl hF, tz_pW_q q2 rfl rfl w1, tz_pC_q q2 rfl rfl c1, tz_pD_st (by omega) (tz_pD_q q3 rfl rfl hD), tz_pf_q q3 rfl h19, tz_pf_q q3 rfl h20, tz_pf_q q3 rfl h21, ty_up_eq⟩
    rw [b175_49 hr, r1, Option.bind_some, px_psh_none, b175_57 hr]
  · rw [if_neg hc, if_neg hc]
    -- an error
    have err : ∃ j1 : MI, px_X (d + 4 + 1) 175 (245, [vR 123, vI a, vJ], []) (px_sh L, j, l, r, tt) = some (none, (px_sh L, j1, l, r, tt)) ∧ tz_res K U PL BH T N m t (.inl 1) j j1 := by
      obtain ⟨j1, r1, c1, -, -⟩ := tz_err (L := L) (r := r) (tt := tt) hr (d + 4) j j l t 1 tz_q_rf hT h19
      exact ⟨j1, by rw [b175_245 hr, r1, Option.bind_some, px_psh_none, b175_250 hr], c1⟩
    -- the signs that wait
    obtain ⟨jw, rw1, ww, cw, qw⟩ := tz_167 (L := L) (r := r) (tt := tt) hr (d + 3) j l 3 ((a, c) :: F') W C (tz_fl D) hW hC hF (by omega) (by rw [List.length_append]; omega)
    have hlen := tz_wk_len ((a, c) :: F').length 3 W C
    obtain ⟨W2, hW2⟩ : ∃ W2, W2 = (tz_wk ((a, c) :: F').length 3 W C).1 := ⟨_, rfl⟩
    obtain ⟨C2, hC2⟩ : ∃ C2, C2 = (tz_wk ((a, c) :: F').length 3 W C).2 := ⟨_, rfl⟩
    rw [← hW2] at ww hlen ⊢
    rw [← hC2] at cw hlen ⊢
    have hFw := tz_pF_q qw rfl rfl hF
    have hTw := tz_pT_q qw rfl rfl hT
    have ef : px_w32 (((F'.length + 1 : Nat) : Int) - 1) = (F'.length : Int) := by rw [ty_w (by omega)]; omega
    have hF22 : jw 123 22 = ((F'.length + 1 : Nat) : Int) := hFw.1
    rw [b175_65 hr]
    by_cases a6 : a = 6
    · rw [if_pos a6, tz_159 hr _ _ _ t 41 4 (by omega) hT, Option.bind_some, px_psh_some, b175_77 hr]
      by_cases k4 : K t = 4
      · rw [if_pos k4, if_neg (by omega), if_pos ⟨a6, k4⟩]
        have e21 : jw 123 21 = o := tz_pf_q qw rfl h21
        have wo : px_w32 (o - 1) = o - 1 := ty_w (by omega)
        obtain ⟨j1, hj1⟩ : ∃ j1 : MI, j1 = px_up (px_up jw 123 22 (F'.length : Int)) 123 21 (o - 1) := ⟨_, rfl⟩
        have q1 : tz_q [] [21, 22] jw j1 := by
          rw [hj1]
          exact tz_q_tr (tz_q_f (Kc := []) (Fs := [22]) (by decide)) (tz_q_f (Kc := []) (Fs := [21]) (by decide)) rfl rfl rfl rfl
        obtain ⟨j2, r2, t2, q2⟩ := hX L tt r hr (d + 1) j1 l t (by omega) (tz_pT_q q1 rfl rfl hTw)
        have q12 : tz_q [] [15, 16, 17, 18, 21, 22] jw j2 := tz_q_tr q1 q2 rfl rfl rfl rfl
        have f2 : tz_pF F' j2 := ⟨by rw [q2.2 22 (by decide), hj1, ty_up_j (by decide), ty_up_eq], by
          rw [q12.1 132 (by decide) (by decide), q12.1 133 (by decide) (by decide)]
          exact hFw.2.2⟩
        obtain ⟨j3, r3, f3, c3, o3, s3, q3⟩ := tz_172 (L := L) (r := r) (tt := tt) hr (d + 3) j2 l F' C2 (tz_fl D) (o - 1) f2 (tz_pC_q q12 rfl rfl cw) (by rw [q2.2 21 (by decide), hj1, ty_up_eq]) (by omega) (hbt' (by omega) (by omega)) (by omega) (by rw [List.length_append]; omega)
        have q23 : tz_q [138, 139] [15, 16, 17, 18, 21, 22, 28, 33] jw j3 := tz_q_tr q12 q3 rfl rfl rfl rfl
        have q03 : tz_q [138, 139] [15, 16, 17, 18, 21, 22, 25, 28, 33] j j3 := tz_q_tr qw q23 rfl rfl rfl rfl
        refine ⟨j3, ?_, tz_q_w q03 rfl rfl, tz_pT_q q3 rfl rfl t2, f3, tz_pW_q q23 rfl rfl ww, c3, tz_pD_st (by omega) (tz_pD_q q03 rfl rfl hD), tz_pf_q q03 rfl h19, tz_pf_q q03 rfl h20, o3, s3⟩
        rw [rw1, Option.bind_some, px_psh_none, b175_85 hr, hF22, ef, e21, wo, ← hj1, r2, Option.bind_some, px_psh_none, b175_109 hr, r3, Option.bind_some, px_psh_none, b175_113 hr]
      · rw [if_neg k4, if_pos rfl, b175_116 hr, if_neg (show ¬ a = 4 by omega), b175_181 hr, if_neg (show ¬ a = 5 by omega), if_neg (show ¬ a = 1 by omega), if_neg (fun g => k4 g.2), if_neg (fun g => absurd g.1 (by omega)), if_neg (by omega), if_neg (fun g => absurd g.1 (by omega))]
        exact err
    · rw [if_neg a6, if_neg (fun g => a6 g.1), b175_116 hr]
      have e181 : ∃ j1 : MI, px_X (d + 4 + 1) 175 (181, [vR 123, vI a, vJ], []) (px_sh L, j, l, r, tt) = some (none, (px_sh L, j1, l, r, tt)) ∧ tz_res K U PL BH T N m t (if a = 5 then .inr (t, (tz_ov 3 10032 F' o ((10000 + c) :: C2)).2.1, (tz_ov 3 10032 F' o ((10000 + c) :: C2)).1, W2, 3, (tz_ov 3 10032 F' o ((10000 + c) :: C2)).2.2, D, kd) else if a = 1 ∧ K t = 5 then .inr (tz_co (t + 1) o ((a, c) :: F') W C D kd) else .inl 1) j j1 := by
        rw [b175_181 hr]
        by_cases a5 : a = 5
        · rw [if_pos a5, if_pos a5]
          have hcmp := hFw.2.1.2 a5
          obtain ⟨j1, hj1⟩ : ∃ j1 : MI, j1 = px_up jw 123 22 (F'.length : Int) := ⟨_, rfl⟩
          have q1 : tz_q [] [22] jw j1 := by
            rw [hj1]
            exact tz_q_f (by decide)
          have hcx : (F'.length : Int) + 1 = ((F'.length + 1 : Nat) : Int) := by omega
          obtain ⟨j2, r2, c2, q2⟩ := tz_162 (L := L) (r := r) (tt := tt) hr (d + 4) j1 l (C2 ++ tz_fl D) (10000 + c) (jw 133 ((F'.length + 1 : Nat) : Int)) 0 (tz_pC_q q1 rfl rfl cw) (by rw [List.length_append]; omega) (Or.inr ⟨by omega, by rw [← hcx]; exact hcmp.2.2⟩)
          have q12 : tz_q [138, 139] [22, 33] jw j2 := tz_q_tr q1 q2 rfl rfl rfl rfl
          have f2 : tz_pF F' j2 := ⟨by rw [q2.2 22 (by decide), hj1, ty_up_eq], by
            rw [q12.1 132 (by decide) (by decide), q12.1 133 (by decide) (by decide)]
            exact hFw.2.2⟩
          have c2' : tz_pC (((10000 + c) :: C2) ++ tz_fl D) j2 := c2
          have e21 : j2 123 21 = o := tz_pf_q q12 rfl (tz_pf_q qw rfl h21)
          obtain ⟨j3, r3, f3, c3, o3, s3, q3⟩ := tz_173 (L := L) (r := r) (tt := tt) hr (d + 3) j2 l F' ((10000 + c) :: C2) (tz_fl D) o f2 c2' e21 (by omega) (hbt' (by omega) (by omega)) (by omega) (by rw [List.length_append, List.length_cons]; omega)
          have q23 : tz_q [138, 139] [21, 22, 28, 33] jw j3 := tz_q_tr q12 q3 rfl rfl rfl rfl
          have q03 : tz_q [138, 139] [21, 22, 25, 28, 33] j j3 := tz_q_tr qw q23 rfl rfl rfl rfl
          refine ⟨j3, ?_, tz_q_w q03 rfl rfl, tz_pT_q q03 rfl rfl hT, f3, tz_pW_q q23 rfl rfl ww, c3, tz_pD_st (by omega) (tz_pD_q q03 rfl rfl hD), tz_pf_q q03 rfl h19, tz_pf_q q03 rfl h20, o3, s3⟩
          have hb191 := b175_191 (L := L) (t := tt) hr (d + 4) jw l a
          rw [hF22, ef, ← hj1] at hb191
          rw [rw1, Option.bind_some, px_psh_none, hb191 (by omega), r2, Option.bind_some, px_psh_none, b175_217 hr, r3, Option.bind_some, px_psh_none, b175_221 hr]
        · rw [if_neg a5, if_neg a5]
          by_cases a1 : a = 1
          · rw [if_pos a1, tz_159 hr _ _ _ t 59 5 (by omega) hT, Option.bind_some, px_psh_some, b175_235 hr]
            by_cases k5 : K t = 5
            · obtain ⟨j1, r1, c1⟩ := tz_177 (L := L) (r := r) (tt := tt) hr hX d j l t (by omega) o ((a, c) :: F') W 2 (by omega) C D kd hb' h'
              rw [if_pos k5, if_neg (by omega), if_pos ⟨a1, k5⟩, r1, Option.bind_some, px_psh_none, b175_242 hr]
              exact ⟨j1, rfl, c1⟩
            · rw [if_neg k5, if_pos rfl, if_neg (fun g => k5 g.2)]
              exact err
          · rw [if_neg a1, if_neg (fun g => a1 g.1)]
            exact err
      by_cases a4 : a = 4
      · rw [if_pos a4]
        by_cases k4 : 14 ≤ K t ∧ K t ≤ 19
        · obtain ⟨g1, g2⟩ := has.1.mp k4
          rw [if_pos (show a = 4 ∧ 14 ≤ K t ∧ K t ≤ 19 from ⟨a4, k4⟩), if_pos g1, tz_174 hr, if_pos g2, Option.bind_some, px_psh_some, b175_136 hr, if_neg (by omega), rw1, Option.bind_some, px_psh_none]
          have hb144 := b175_144 (L := L) (t := tt) hr (d + 4) jw l a
          obtain ⟨j1, hj1⟩ : ∃ j1 : MI, j1 = px_up (px_up jw 133 ((F'.length + 1 : Nat) : Int) (jw 123 18)) 132 (F'.length : Int) 5 := ⟨_, rfl⟩
          rw [hF22, ef, ← hj1] at hb144
          have q1 : tz_q [132, 133] [] jw j1 := by
            rw [hj1]
            exact tz_q_tr (tz_q_k (Kc := [132, 133]) (Fs := []) (by decide) (by decide)) (tz_q_k (Kc := [132, 133]) (Fs := []) (by decide) (by decide)) rfl rfl rfl rfl
          have h18 : jw 123 18 = j 123 18 := qw.2 18 (by decide)
          have htok := tz_tok_as (has.2 k4.1 k4.2)
          have f1 : tz_pF ((5, K t) :: F') j1 := by
            refine ⟨by rw [q1.2 22 (by decide), hF22, List.length_cons], ⟨?_, fun _ => ⟨k4.1, k4.2, ?_⟩⟩, ?_⟩
            · rw [hj1, ty_up_eq]
            · rw [show (F'.length : Int) + 1 = ((F'.length + 1 : Nat) : Int) by omega, hj1, ty_up_k (by decide), ty_up_eq, h18]
              exact htok
            · refine tz_hF_c (fun x x0 x1 => ?_) hFw.2.2
              rw [hj1, ty_up_j (by omega), ty_up_k (by decide), ty_up_k (by decide), ty_up_j (by omega)]
              exact ⟨rfl, rfl⟩
          obtain ⟨j2, r2, t2, q2⟩ := hX L tt r hr (d + 1) j1 l t (by omega) (tz_pT_q q1 rfl rfl hTw)
          have q3 : tz_q [] [28] j2 (px_up j2 123 28 1) := tz_q_f (by decide)
          have q23 : tz_q [] [15, 16, 17, 18, 28] j1 (px_up j2 123 28 1) := tz_q_tr q2 q3 rfl rfl rfl rfl
          have q13 : tz_q [132, 133] [15, 16, 17, 18, 28] jw (px_up j2 123 28 1) := tz_q_tr q1 q23 rfl rfl rfl rfl
          have q03 : tz_q [132, 133, 138, 139] [15, 16, 17, 18, 25, 28, 33] j (px_up j2 123 28 1) := tz_q_tr qw q13 rfl rfl rfl rfl
          refine ⟨px_up j2 123 28 1, ?_, tz_q_w q03 rfl rfl, tz_pT_q q3 rfl rfl t2, tz_pF_q q23 rfl rfl f1, tz_pW_q q13 rfl rfl ww, tz_pC_q q13 rfl rfl cw, tz_pD_st (by omega) (tz_pD_q q03 rfl rfl hD), tz_pf_q q03 rfl h19, tz_pf_q q03 rfl h20, tz_pf_q q03 rfl h21, ty_up_eq⟩
          rw [hb144 (by omega) (by omega), r2, Option.bind_some, px_psh_none, b175_173 hr]
        · rw [if_neg (show ¬ (a = 4 ∧ 14 ≤ K t ∧ K t ≤ 19) from fun g => k4 g.2)]
          by_cases g1 : j 123 17 = 3
          · have g2 : ¬ (j 123 18 = 60 ∨ j 123 18 = 62 ∨ j 123 18 = 61 ∨ j 123 18 = 35 ∨ j 123 18 = 300 ∨ j 123 18 = 301) := fun g => k4 (has.1.mpr ⟨g1, g⟩)
            rw [if_pos g1, tz_174 hr, if_neg g2, Option.bind_some, px_psh_some, b175_136 hr, if_pos rfl]
            exact e181
          · rw [if_neg g1]
            exact e181
      · rw [if_neg a4, if_neg (fun g => a4 g.1)]
        exact e181
/-- asksOn -/
theorem tz_176 (hr : px_hr r) (hX : tz_NX K U PL BH T N m) (hK : ∀ t, t ≤ m → (K t = 0 ↔ t = m)) (d : Nat) (j l : MI) (t : Nat) (o : Int) (F : List (Int × Int)) (W : List (Int × Nat)) (C : List Int) (D : List (Int × List Int)) (kd : Int) (hb : tz_bd m (t, o, F, W, 3, C, D, kd)) (h : tz_RC K U PL BH T N m (t, o, F, W, 3, C, D, kd) j) :
    ∃ j1 : MI, px_C (d + 5) 176 [vR 123] (px_sh L, j, l, r, tt) = some (none, (px_sh L, j1, l, r, tt)) ∧ tz_res K U PL BH T N m t (tz_s3 K t o F W C D kd) j j1 := by
  have h' := h
  have hb' := hb
  obtain ⟨hT, hF, hW, hC, hD, h19, h20, h21, h28⟩ := h
  obtain ⟨⟨b1, b2, b3, b4, b5⟩, b6, b7, b8⟩ := hb
  have hbt : tz_bt F := by
    rcases b8 with b8 | b8
    · exact b8.2.1
    · omega
  rw [List.length_append] at b6
  obtain ⟨a, c, F', rfl⟩ := tz_bt_ne hbt
  have ehd : (((a, c) :: F').headD (0, 0)).1 = a := rfl
  have hk0 := hK t b1
  unfold tz_s3
  rw [ehd]
  show ∃ j1 : MI, px_C (d + 4 + 1) 176 [vR 123] _ = _ ∧ _
  have go : ∀ op : Int, (K t = 30 ∧ op = 407) ∨ (K t = 31 ∧ op = 406) → ∃ j1 : MI, px_X (d + 4 + 1) 176 (37, [vR 123], [vI op, vR 123]) (px_sh L, j, l, r, tt) = some (none, (px_sh L, j1, l, r, tt)) ∧ tz_res K U PL BH T N m t (.inr (tz_wf (K t) (t + 1) o ((a, c) :: F') W 0 C D kd)) j j1 := fun op ho => by
    obtain ⟨j1, r1, t1, w1, c1, q1⟩ := tz_168 (L := L) (r := r) (tt := tt) hr hX d j l ((a, c) :: F') W C (tz_fl D) (K t) op (by unfold tz_wo; omega) (tz_tok_ao ho) hT (by omega) hF hW hC (by omega) (by rw [List.length_append]; omega)
    have q2 : tz_q [] [28] j1 (px_up j1 123 28 0) := tz_q_f (by decide)
    have q3 : tz_q [134, 135, 138, 139] [15, 16, 17, 18, 25, 28, 33] j (px_up j1 123 28 0) := tz_q_tr q1 q2 rfl rfl rfl rfl
    refine ⟨px_up j1 123 28 0, ?_, tz_q_w q3 rfl rfl, tz_pT_q q2 rfl rfl t1, tz_pF_q q3 rfl rfl hF, tz_pW_q q2 rfl rfl w1, tz_pC_q q2 rfl rfl c1, tz_pD_st (by omega) (tz_pD_q q3 rfl rfl hD), tz_pf_q q3 rfl h19, tz_pf_q q3 rfl h20, tz_pf_q q3 rfl h21, ty_up_eq⟩
    rw [b176_37 hr, r1, Option.bind_some, px_psh_none, b176_40 hr]
  have e18 : px_X (d + 4 + 1) 176 (18, [vR 123], []) (px_sh L, j, l, r, tt) = px_X (d + 4 + 1) 176 (25, [vR 123], [vI (if K t = 30 then 1 else 0), vR 123]) (px_sh L, j, l, r, tt) := by
    rw [b176_18 hr, tz_160 hr _ _ _ t 6 (by omega) hT, Option.bind_some, px_psh_some, show (6 : Int) + 24 = 30 from rfl]
  rw [e176, b176_0 hr, tz_160 hr _ _ _ t 6 (by omega) hT, Option.bind_some, px_psh_some, b176_6 hr, show (6 : Int) + 24 = 30 from rfl]
  by_cases k30 : K t = 30
  · rw [if_pos k30, if_neg (by omega), if_pos (Or.inl k30), e18, if_pos k30, b176_25 hr, if_neg (by omega)]
    exact go 407 (Or.inl ⟨k30, rfl⟩)
  · rw [if_neg k30, if_pos rfl, tz_160 hr _ _ _ t 7 (by omega) hT, Option.bind_some, px_psh_some, b176_15 hr, show (7 : Int) + 24 = 31 from rfl]
    by_cases k31 : K t = 31
    · rw [if_pos k31, if_neg (by omega), if_pos (Or.inr k31), e18, if_neg k30, b176_25 hr, if_pos rfl]
      exact go 406 (Or.inr ⟨k31, rfl⟩)
    · rw [if_neg k31, if_pos rfl, if_neg (by omega), tz_164 hr _ _ _ a c F' hF (by rw [List.length_cons] at b4; omega), Option.bind_some, px_psh_some, b176_52 hr]
      have err : ∃ j1 : MI, px_X (d + 4 + 1) 176 (72, [vR 123], []) (px_sh L, j, l, r, tt) = some (none, (px_sh L, j1, l, r, tt)) ∧ tz_res K U PL BH T N m t (.inl 1) j j1 := by
        obtain ⟨j1, r1, c1, -, -⟩ := tz_err (L := L) (r := r) (tt := tt) hr (d + 4) j j l t 1 tz_q_rf hT h19
        exact ⟨j1, by rw [b176_72 hr, r1, Option.bind_some, px_psh_none, b176_77 hr], c1⟩
      by_cases a2 : a = 2
      · rw [if_pos a2, tz_159 hr _ _ _ t 59 5 (by omega) hT, Option.bind_some, px_psh_some, b176_62 hr]
        by_cases k5 : K t = 5
        · obtain ⟨j1, r1, c1⟩ := tz_177 (L := L) (r := r) (tt := tt) hr hX d j l t (by omega) o ((a, c) :: F') W 3 (by omega) C D kd hb' h'
          rw [if_pos k5, if_neg (by omega), if_pos ⟨a2, k5⟩, r1, Option.bind_some, px_psh_none, b176_69 hr]
          exact ⟨j1, rfl, c1⟩
        · rw [if_neg k5, if_pos rfl, if_neg (fun g => k5 g.2)]
          exact err
      · rw [if_neg a2, if_neg (fun g => a2 g.1)]
        exact err
theorem tz_was_iff (k : Int) (f g : Int → Int) : ∀ (D : List (Int × List Int)), tz_hD f g D → (tz_was k D = true ↔ ∃ x : Int, 0 ≤ x ∧ x < D.length ∧ f x = k)
  | [], _ => ⟨fun h => absurd h Bool.false_ne_true, fun ⟨x, x0, x1, _⟩ => absurd x1 (by rw [List.length_nil]; omega)⟩
  | (a, c) :: D, h => by
    have ih := tz_was_iff k f g D h.2
    unfold tz_was
    rw [Bool.or_eq_true, decide_eq_true_eq, ih, List.length_cons]
    constructor
    · rintro (h1 | ⟨x, x0, x1, x2⟩)
      · exact ⟨D.length, by omega, by omega, by rw [h.1.1]; exact h1⟩
      · exact ⟨x, x0, by omega, x2⟩
    · rintro ⟨x, x0, x1, x2⟩
      by_cases hx : x = D.length
      · rw [hx, h.1.1] at x2
        exact Or.inl x2
      · exact Or.inr ⟨x, x0, by omega, x2⟩
theorem tz_178_n (hr : px_hr r) (d : Nat) (j l : MI) (w : Int) (M : Nat) (hM : j 123 29 = (M : Int)) (h10 : M ≤ 10) : ∀ (n : Nat) (k x2 : Int), (x2 = 0 ∨ x2 = 1) → 0 ≤ k → k + n = M → ∃ v : Int, px_X d 178 (4, [vR 123, vI w, vI x2, vI k], []) (px_sh L, j, l, r, tt) = some (some (vI v), (px_sh L, j, l, r, tt)) ∧ (v = 0 ∨ v = 1) ∧ (v = 1 ↔ x2 = 1 ∨ ∃ x : Int, k ≤ x ∧ x < M ∧ j 136 x = w)
  | 0, k, x2, hx, h0, hn => by
    refine ⟨x2, ?_, hx, fun h => Or.inl h, fun h => ?_⟩
    · have hb := b178_4 (L := L) (t := tt) hr d j l w x2 k
      rw [hM] at hb
      rw [hb (by intros; omega) (by intros; omega), if_pos (by omega)]
    · rcases h with h | ⟨x, x0, x1, _⟩
      · exact h
      · omega
  | n + 1, k, x2, hx, h0, hn => by
    have wk : px_w32 (k + 1) = k + 1 := ty_w (by omega)
    have hb := b178_4 (L := L) (t := tt) hr d j l w x2 k
    rw [hM, wk] at hb
    have hb := hb (by intros; omega) (by intros; omega)
    rw [if_neg (by omega)] at hb
    have step : ∀ y : Int, (y = 0 ∨ y = 1) → (y = 1 ↔ x2 = 1 ∨ j 136 k = w) → ∃ v : Int, px_X d 178 (4, [vR 123, vI w, vI y, vI (k + 1)], []) (px_sh L, j, l, r, tt) = some (some (vI v), (px_sh L, j, l, r, tt)) ∧ (v = 0 ∨ v = 1) ∧ (v = 1 ↔ x2 = 1 ∨ ∃ x : Int, k ≤ x ∧ x < M ∧ j 136 x = w) := fun y hy hi => by
      obtain ⟨v, r1, v1, v2⟩ := tz_178_n hr d j l w M hM h10 n (k + 1) y hy (by omega) (by omega)
      refine ⟨v, r1, v1, v2.trans ?_⟩
      rw [hi]
      constructor
      · rintro ((h | h) | ⟨x, x0, x1, h⟩)
        · exact Or.inl h
        · exact Or.inr ⟨k, by omega, by omega, h⟩
        · exact Or.inr ⟨x, by omega, x1, h⟩
      · rintro (h | ⟨x, x0, x1, h⟩)
        · exact Or.inl (Or.inl h)
        · by_cases e : x = k
          · rw [e] at h
            exact Or.inl (Or.inr h)
          · exact Or.inr ⟨x, by omega, x1, h⟩
    rw [hb]
    rcases hx with hx | hx
    · rw [if_pos hx]
      by_cases h : j 136 k = w
      · rw [if_pos h]
        exact step 1 (by omega) ⟨fun _ => Or.inr h, fun _ => rfl⟩
      · rw [if_neg h]
        exact step 0 (by omega) ⟨fun h2 => by omega, fun h2 => by
          rcases h2 with h2 | h2
          · omega
          · exact absurd h2 h⟩
    · rw [if_neg (by omega)]
      exact step 1 (by omega) ⟨fun _ => Or.inl hx, fun _ => rfl⟩
theorem tz_178 (hr : px_hr r) (d : Nat) (j l : MI) (w : Int) (D : List (Int × List Int)) (hM : j 123 29 = (D.length : Int)) (h10 : D.length ≤ 10) (hD : tz_hD (j 136) (j 137) D) : px_C d 178 [vR 123, vI w] (px_sh L, j, l, r, tt) = some (some (vI (if tz_was w D = true then 1 else 0)), (px_sh L, j, l, r, tt)) := by
  obtain ⟨v, r1, v1, v2⟩ := tz_178_n (L := L) (r := r) (tt := tt) hr d j l w D.length hM h10 D.length 0 0 (Or.inl rfl) (by omega) (by omega)
  have hi := tz_was_iff w _ _ D hD
  rw [e178, b178_0 hr, r1]
  by_cases h : tz_was w D = true
  · rw [if_pos h, v2.mpr (Or.inr (hi.mp h))]
  · rw [if_neg h]
    rcases v1 with e | e
    · rw [e]
    · rcases v2.mp e with g | g
      · omega
      · exact absurd (hi.mpr g) h
/-- clause -/
theorem tz_179 (hr : px_hr r) (hX : tz_NX K U PL BH T N m) (hK : ∀ t, t ≤ m → (K t = 0 ↔ t = m)) (d : Nat) (j l : MI) (t : Nat) (o : Int) (F : List (Int × Int)) (W : List (Int × Nat)) (C : List Int) (D : List (Int × List Int)) (kd : Int) (hb : tz_bd m (t, o, F, W, 4, C, D, kd)) (h : tz_RC K U PL BH T N m (t, o, F, W, 4, C, D, kd) j) :
    ∃ j1 : MI, px_C (d + 5) 179 [vR 123] (px_sh L, j, l, r, tt) = some (none, (px_sh L, j1, l, r, tt)) ∧ tz_res K U PL BH T N m t (tz_s4 K t o F W D) j j1 := by
  obtain ⟨hT, hF, hW, hC, hD, h19, h20, h21, h28⟩ := h
  obtain ⟨⟨b1, b2, b3, b4, b5⟩, b6, b7, b8⟩ := hb
  have hC0 : C = [] := by
    rcases b8 with b8 | b8
    · omega
    · exact b8.2
  subst hC0
  have hk1 := tz_k1 hT.2.2.2.2.2
  have hk0 := hK t b1
  unfold tz_s4
  show ∃ j1 : MI, px_C (d + 4 + 1) 179 [vR 123] _ = _ ∧ _
  have err1 : ∃ j1 : MI, px_X (d + 4 + 1) 179 (16, [vR 123], []) (px_sh L, j, l, r, tt) = some (none, (px_sh L, j1, l, r, tt)) ∧ tz_res K U PL BH T N m t (.inl 1) j j1 := by
    obtain ⟨j1, r1, c1, -, -⟩ := tz_err (L := L) (r := r) (tt := tt) hr (d + 4) j j l t 1 tz_q_rf hT h19
    exact ⟨j1, by rw [b179_16 hr, r1, Option.bind_some, px_psh_none, b179_21 hr], c1⟩
  rw [e179, b179_0 hr]
  by_cases hk : 24 ≤ K t ∧ K t ≤ 29
  · rw [if_neg (show ¬ ¬ (24 ≤ K t ∧ K t ≤ 29) from fun g => g hk)]
    have h18 : j 123 18 = K t - 24 := by
      have := (hk1.2.1 hk.1).1
      omega
    have hD29 := hD.1
    rw [if_pos (by omega), if_pos (by omega)]
    obtain ⟨ja, hja⟩ : ∃ ja : MI, ja = px_up j 123 30 (j 123 18) := ⟨_, rfl⟩
    have qa : tz_q [] [30] j ja := by
      rw [hja]
      exact tz_q_f (by decide)
    rw [← hja]
    have a30 : ja 123 30 = K t - 24 := by rw [hja, ty_up_eq, h18]
    have a29 : ja 123 29 = (D.length : Int) := tz_pf_q qa rfl hD29
    have a19 : ja 123 19 = 0 := tz_pf_q qa rfl h19
    have aT := tz_pT_q qa rfl rfl hT
    have aD : tz_hD (ja 136) (ja 137) D := by
      rw [qa.1 136 (by decide) (by decide), qa.1 137 (by decide) (by decide)]
      exact hD.2.1
    have back : ∀ (jb : MI), tz_res K U PL BH T N m t (.inl 4) j jb ∨ tz_res K U PL BH T N m t (.inl 6) j jb → jb 123 29 = (D.length : Int) → px_X (d + 4 + 1) 179 (72, [vR 123], []) (px_sh L, jb, l, r, tt) = some (none, (px_sh L, jb, l, r, tt)) := fun jb hjb h29 => by
      have h19b : jb 123 19 = 4 ∨ jb 123 19 = 6 := by
        rcases hjb with g | g
        · exact Or.inl g.2.1
        · exact Or.inr g.2.1
      rw [b179_72 hr _ _ _ (fun g => by omega), if_neg (by omega)]
    have e57 : ∃ j1 : MI, px_X (d + 4 + 1) 179 (57, [vR 123], []) (px_sh L, ja, l, r, tt) = some (none, (px_sh L, j1, l, r, tt)) ∧ tz_res K U PL BH T N m t (if D.length = 10 then .inl 6 else .inr (t + 1, o, (if K t ≤ 27 then 1 else 2, 0) :: F, W, if K t ≤ 27 then 1 else 0, [], D, K t - 24)) j j1 := by
      rw [b179_57 hr, a29]
      by_cases h10 : D.length = 10
      · obtain ⟨j1, r1, c1, t1, q1⟩ := tz_err (L := L) (r := r) (tt := tt) hr (d + 4) ja j l t 6 (tz_q_w qa rfl rfl) aT a19
        rw [if_pos (by omega), if_pos h10, r1, Option.bind_some, px_psh_none, back j1 (Or.inr c1) (tz_pf_q q1 rfl a29)]
        exact ⟨j1, rfl, c1⟩
      · rw [if_neg (by omega), if_neg h10]
        have hC33 : ja 123 33 = (((tz_fl D).length : Nat) : Int) := tz_pf_q qa rfl hC.1
        have hb72 := b179_72 (L := L) (t := tt) hr (d + 4) ja l
        obtain ⟨jb, hjb⟩ : ∃ jb : MI, jb = px_up (px_up ja 136 (D.length : Int) (K t - 24)) 137 (D.length : Int) ((tz_fl D).length : Int) := ⟨_, rfl⟩
        rw [a19, a29, a30, hC33, ← hjb] at hb72
        have qb : tz_q [136, 137] [] ja jb := by
          rw [hjb]
          exact tz_q_tr (tz_q_k (Kc := [136, 137]) (Fs := []) (by decide) (by decide)) (tz_q_k (Kc := [136, 137]) (Fs := []) (by decide) (by decide)) rfl rfl rfl rfl
        have qab : tz_q [136, 137] [30] j jb := tz_q_tr qa qb rfl rfl rfl rfl
        obtain ⟨jc, rc, tc, qc⟩ := hX L tt r hr (d + 1) jb l t (by omega) (tz_pT_q qab rfl rfl hT)
        have qac : tz_q [136, 137] [15, 16, 17, 18, 30] j jc := tz_q_tr qab qc rfl rfl rfl rfl
        have c30 : jc 123 30 = K t - 24 := by rw [qc.2 30 (by decide), qb.2 30 (by decide), a30]
        have rest : ∀ (f st : Int), (f = 1 ∨ f = 2) → ¬ st = 4 → px_X (d + 4 + 1) 179 (110, [vR 123], []) (px_sh L, jc, l, r, tt) = px_X (d + 4 + 1) 179 (124, [vR 123], [vI f, vR 123]) (px_sh L, jc, l, r, tt) → (∀ jd : MI, jd 123 30 = K t - 24 → px_X (d + 4 + 1) 179 (127, [vR 123], []) (px_sh L, jd, l, r, tt) = some (none, (px_sh L, px_up jd 123 28 st, l, r, tt))) →
            ∃ j1 : MI, px_X (d + 4 + 1) 179 (110, [vR 123], []) (px_sh L, jc, l, r, tt) = some (none, (px_sh L, j1, l, r, tt)) ∧ tz_res K U PL BH T N m t (.inr (t + 1, o, (f, 0) :: F, W, st, [], D, K t - 24)) j j1 := fun f st hf hst e1 e2 => by
          obtain ⟨jd, rd, fd, qd⟩ := tz_163 (L := L) (r := r) (tt := tt) hr (d + 4) jc l F f (tz_pF_q qac rfl rfl hF) (by omega) (by omega)
          have qe : tz_q [] [28] jd (px_up jd 123 28 st) := tz_q_f (by decide)
          have qce : tz_q [132] [22, 28] jc (px_up jd 123 28 st) := tz_q_tr qd qe rfl rfl rfl rfl
          have qbe : tz_q [132] [15, 16, 17, 18, 22, 28] jb (px_up jd 123 28 st) := tz_q_tr qc qce rfl rfl rfl rfl
          have q0e : tz_q [132, 136, 137] [15, 16, 17, 18, 22, 28, 30] j (px_up jd 123 28 st) := tz_q_tr qac qce rfl rfl rfl rfl
          have e136 : (px_up jd 123 28 st) 136 = jb 136 := qbe.1 136 (by decide) (by decide)
          have e137 : (px_up jd 123 28 st) 137 = jb 137 := qbe.1 137 (by decide) (by decide)
          refine ⟨px_up jd 123 28 st, ?_, tz_q_w q0e rfl rfl, tz_pT_q qce rfl rfl tc, tz_pF_q qe rfl rfl fd, tz_pW_q q0e rfl rfl hW, tz_pC_q q0e rfl rfl hC, ⟨tz_pf_q q0e rfl hD29, ?_, fun _ => ⟨tz_pf_q qce rfl c30, ?_, ?_⟩⟩, tz_pf_q q0e rfl h19, tz_pf_q q0e rfl h20, tz_pf_q q0e rfl h21, ty_up_eq⟩
          · rw [e1, b179_124 hr, rd, Option.bind_some, px_psh_none, e2 jd (tz_pf_q qd rfl c30)]
          · rw [e136, e137]
            refine tz_hD_c (fun x x0 x1 => ?_) aD
            rw [hjb, ty_up_k (by decide), ty_up_j (by omega), ty_up_j (by omega), ty_up_k (by decide)]
            exact ⟨rfl, rfl⟩
          · rw [e136, hjb, ty_up_k (by decide), ty_up_eq]
          · rw [e137, hjb, ty_up_eq]
        have go : px_X (d + 4 + 1) 179 (72, [vR 123], []) (px_sh L, ja, l, r, tt) = px_X (d + 4 + 1) 179 (110, [vR 123], []) (px_sh L, jc, l, r, tt) := by
          rw [hb72 (fun _ => by omega), if_pos (by omega), rc, Option.bind_some, px_psh_none]
        rw [go]
        by_cases h27 : K t ≤ 27
        · rw [if_pos h27, if_pos h27]
          exact rest 1 1 (by omega) (by omega) (by rw [b179_110 hr, c30, if_pos (by omega)]) (fun jd hd => by rw [b179_127 hr, hd, if_pos (by omega)])
        · rw [if_neg h27, if_neg h27]
          exact rest 2 0 (by omega) (by omega) (by rw [b179_110 hr, c30, if_neg (by omega)]) (fun jd hd => by rw [b179_127 hr, hd, if_neg (by omega)])
    by_cases h27 : K t ≤ 27
    · rw [if_neg (show ¬ 3 < j 123 18 by omega), h18, tz_178 hr _ _ _ _ D a29 b7 aD, Option.bind_some, px_psh_some, b179_46 hr]
      by_cases hw : tz_was (K t - 24) D = true
      · obtain ⟨j1, r1, c1, t1, q1⟩ := tz_err (L := L) (r := r) (tt := tt) hr (d + 4) ja j l t 4 (tz_q_w qa rfl rfl) aT a19
        rw [if_pos hw, if_neg (by omega), if_pos ⟨h27, hw⟩, r1, Option.bind_some, px_psh_none, b179_54 hr, back j1 (Or.inl c1) (tz_pf_q q1 rfl a29)]
        exact ⟨j1, rfl, c1⟩
      · rw [if_neg hw, if_pos rfl, if_neg (fun g => hw g.2)]
        exact e57
    · rw [if_pos (show 3 < j 123 18 by omega), if_neg (fun g => h27 g.1)]
      exact e57
  · rw [if_pos hk]
    by_cases h17 : j 123 17 = 1
    · rw [if_pos h17, if_neg (by
        have := hk1.1.mp h17
        have := hk1.2.1 this
        omega)]
      exact err1
    · rw [if_neg h17]
      exact err1
end TYPT
