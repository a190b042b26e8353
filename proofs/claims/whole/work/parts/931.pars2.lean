/-! text: what the reference's small methods do to the state's parts. -/
theorem tz_wk_len (f : Nat) (rk : Int) : ∀ (W : List (Int × Nat)) (C : List Int), (tz_wk f rk W C).1.length + (tz_wk f rk W C).2.length = W.length + C.length ∧ (tz_wk f rk W C).1.length ≤ W.length
  | [], C => ⟨rfl, Nat.le_refl _⟩
  | (b, g) :: W, C => by
    unfold tz_wk
    by_cases h : g = f ∧ rk ≤ tz_rk b
    · rw [if_pos h]
      have h2 := tz_wk_len f rk W ((10000 + b) :: C)
      rw [List.length_cons] at h2 ⊢
      omega
    · rw [if_neg h]
      exact ⟨rfl, Nat.le_refl _⟩
theorem tz_wk_app (f : Nat) (rk : Int) (Y : List Int) : ∀ (W : List (Int × Nat)) (C : List Int), tz_wk f rk W (C ++ Y) = ((tz_wk f rk W C).1, (tz_wk f rk W C).2 ++ Y)
  | [], C => rfl
  | (b, g) :: W, C => by
    unfold tz_wk
    by_cases h : g = f ∧ rk ≤ tz_rk b
    · rw [if_pos h, if_pos h]
      exact tz_wk_app f rk Y W ((10000 + b) :: C)
    · rw [if_neg h, if_neg h]
theorem tz_ov_app (x code : Int) (Y : List Int) : ∀ (F : List (Int × Int)) (o : Int) (C : List Int), tz_ov x code F o (C ++ Y) = ((tz_ov x code F o C).1, (tz_ov x code F o C).2.1, (tz_ov x code F o C).2.2 ++ Y)
  | [], o, C => rfl
  | (a, b) :: F, o, C => by
    unfold tz_ov
    by_cases h : a = x
    · rw [if_pos h, if_pos h]
      exact tz_ov_app x code Y F (o - 1) (code :: C)
    · rw [if_neg h, if_neg h]
def tz_RC (K U PL BH : Nat → Int) (T : Int → Int) (N : Int) (m : Nat) : tz_RS → MI → Prop
  | (t, o, F, W, st, C, D, kd), j => tz_pT K U PL BH T N m t j ∧ tz_pF F j ∧ tz_pW W j ∧ tz_pC (C ++ tz_fl D) j ∧ tz_pD D st kd j ∧ j 123 19 = 0 ∧ j 123 20 = -1 ∧ j 123 21 = o ∧ j 123 28 = st
/-- what next does -/
def tz_NX (K U PL BH : Nat → Int) (T : Int → Int) (N : Int) (m : Nat) : Prop := ∀ (L tt : Nat) (r : MR), px_hr r → ∀ (d : Nat) (j l : MI) (t : Nat), t < m → tz_pT K U PL BH T N m t j →
  ∃ j1 : MI, px_C (d + 3) 158 [vR 123] (px_sh L, j, l, r, tt) = some (none, (px_sh L, j1, l, r, tt)) ∧ tz_pT K U PL BH T N m (t + 1) j1 ∧ tz_q [] [15, 16, 17, 18] j j1
section TYPB
variable {L tt : Nat} {r : MR}
theorem tz_161 (hr : px_hr r) (d : Nat) (j l : MI) (e : Int) (h : j 123 19 = 0) : px_C d 161 [vR 123, vI e] (px_sh L, j, l, r, tt) = some (none, (px_sh L, px_up (px_up j 123 19 e) 123 20 (j 123 16), l, r, tt)) := by
  rw [e161, b161_0 hr, if_pos h]
theorem tz_162 (hr : px_hr r) (d : Nat) (j l : MI) (X : List Int) (c op v : Int) (h : tz_pC X j) (hl : X.length < 400) (hc : tz_te c op v) :
    ∃ j1 : MI, px_C d 162 [vR 123, vI op, vI v] (px_sh L, j, l, r, tt) = some (none, (px_sh L, j1, l, r, tt)) ∧ tz_pC (c :: X) j1 ∧ tz_q [138, 139] [33] j j1 := by
  obtain ⟨h1, h2⟩ := h
  have w : px_w32 ((X.length : Int) + 1) = (X.length : Int) + 1 := ty_w (by omega)
  have e : (px_up (px_up j 138 (X.length : Int) op) 139 (X.length : Int) v) 123 33 = (X.length : Int) := h1
  refine ⟨px_up (px_up (px_up j 138 (X.length : Int) op) 139 (X.length : Int) v) 123 33 ((X.length : Int) + 1), ?_, ⟨?_, ?_, ?_⟩, ?_⟩
  · have hb := b162_0 (L := L) (t := tt) hr d j l op v
    rw [h1, w] at hb
    rw [e162, hb (by omega)]
  · rw [ty_up_eq, List.length_cons]
    omega
  · rw [ty_up_k (by decide), ty_up_k (by decide), ty_up_eq, ty_up_k (by decide), ty_up_eq]
    exact hc
  · refine tz_hC_c (fun x x0 x1 => ?_) h2
    rw [ty_up_k (by decide), ty_up_k (by decide), ty_up_j (by omega), ty_up_k (by decide), ty_up_j (by omega), ty_up_k (by decide)]
    exact ⟨rfl, rfl⟩
  · exact tz_q_tr (tz_q_tr (tz_q_k (Kc := [138, 139]) (Fs := [33]) (by decide) (by decide)) (tz_q_k (Kc := [138, 139]) (Fs := [33]) (by decide) (by decide)) (Kc'' := [138, 139]) (Fs'' := [33]) rfl rfl rfl rfl) (tz_q_f (Kc := [138, 139]) (Fs := [33]) (by decide)) rfl rfl rfl rfl
theorem tz_163 (hr : px_hr r) (d : Nat) (j l : MI) (F : List (Int × Int)) (a : Int) (h : tz_pF F j) (hl : F.length < 40) (ha : ¬ a = 5) :
    ∃ j1 : MI, px_C d 163 [vR 123, vI a] (px_sh L, j, l, r, tt) = some (none, (px_sh L, j1, l, r, tt)) ∧ tz_pF ((a, 0) :: F) j1 ∧ tz_q [132] [22] j j1 := by
  obtain ⟨h1, h2⟩ := h
  have w : px_w32 ((F.length : Int) + 1) = (F.length : Int) + 1 := ty_w (by omega)
  refine ⟨px_up (px_up j 132 (F.length : Int) a) 123 22 ((F.length : Int) + 1), ?_, ⟨?_, ⟨?_, fun e => absurd e ha⟩, ?_⟩, ?_⟩
  · have hb := b163_0 (L := L) (t := tt) hr d j l a
    rw [h1, w] at hb
    rw [e163, hb (by omega)]
  · rw [ty_up_eq, List.length_cons]
    omega
  · rw [ty_up_k (by decide), ty_up_eq]
  · refine tz_hF_c (fun x x0 x1 => ?_) h2
    rw [ty_up_k (by decide), ty_up_j (by omega), ty_up_k (by decide), ty_up_k (by decide)]
    exact ⟨rfl, rfl⟩
  · exact tz_q_tr (tz_q_k (Kc := [132]) (Fs := [22]) (by decide) (by decide)) (tz_q_f (Kc := [132]) (Fs := [22]) (by decide)) rfl rfl rfl rfl
theorem tz_164 (hr : px_hr r) (d : Nat) (j l : MI) (a b : Int) (F : List (Int × Int)) (h : tz_pF ((a, b) :: F) j) (hl : F.length < 40) : px_C d 164 [vR 123] (px_sh L, j, l, r, tt) = some (some (vI a), (px_sh L, j, l, r, tt)) := by
  obtain ⟨h1, ⟨h2, -⟩, -⟩ := h
  rw [List.length_cons] at h1
  have w : px_w32 (((F.length + 1 : Nat) : Int) - 1) = (F.length : Int) := by rw [ty_w (by omega)]; omega
  have hb := b164_0 (L := L) (t := tt) hr d j l
  rw [h1, w, h2] at hb
  rw [e164, hb (by omega)]
theorem tz_166 (hr : px_hr r) (d : Nat) (j l : MI) (b op : Int) (hw : tz_wo b) (h : ty_tok (10000 + b) op 0) : px_C d 166 [vI op] (px_sh L, j, l, r, tt) = some (some (vI (tz_rk b)), (px_sh L, j, l, r, tt)) := by
  rw [e166, b166_0 hr]
  unfold tz_wo at hw
  unfold ty_tok at h
  unfold tz_rk
  rcases (by omega : b = 30 ∨ b = 31 ∨ b = 10 ∨ b = 11 ∨ b = 12 ∨ b = 13) with e | e | e | e | e | e
  · rw [if_pos (by omega), if_pos e]
  · rw [if_neg (by omega), if_pos (by omega), if_neg (by omega), if_pos e]
  · rw [if_neg (by omega), if_neg (by omega), if_pos (by omega), if_neg (by omega), if_neg (by omega), if_pos e]
  · rw [if_neg (by omega), if_neg (by omega), if_neg (by omega), if_pos (by omega), if_neg (by omega), if_neg (by omega), if_neg (by omega), if_pos e]
  · rw [if_neg (by omega), if_neg (by omega), if_neg (by omega), if_neg (by omega), if_neg (by omega), if_neg (by omega), if_neg (by omega), if_neg (by omega)]
  · rw [if_neg (by omega), if_neg (by omega), if_neg (by omega), if_neg (by omega), if_neg (by omega), if_neg (by omega), if_neg (by omega), if_neg (by omega)]
/-- works -/
theorem tz_167_n (hr : px_hr r) (d : Nat) (l : MI) (rk : Int) (F : List (Int × Int)) : ∀ (W : List (Int × Nat)) (X : List Int) (j : MI), tz_pW W j → tz_pC X j → tz_pF F j → W.length ≤ 60 → X.length + W.length < 400 →
    ∃ j1 : MI, px_X (d + 1) 167 (0, [vR 123, vI rk], []) (px_sh L, j, l, r, tt) = some (none, (px_sh L, j1, l, r, tt)) ∧ tz_pW (tz_wk F.length rk W X).1 j1 ∧ tz_pC (tz_wk F.length rk W X).2 j1 ∧ tz_q [138, 139] [25, 33] j j1
  | [], X, j, hW, hC, hF, hl, hx => by
    have h1 : j 123 25 = 0 := hW.1
    refine ⟨j, ?_, hW, hC, tz_q_rf⟩
    rw [b167_0 hr _ _ _ _ (by intros; omega) (by intros; omega), if_pos (by omega)]
  | (b, g) :: W, X, j, hW, hC, hF, hl, hx => by
    obtain ⟨h1, ⟨h2, h3, h4⟩, h5⟩ := hW
    rw [List.length_cons] at h1 hl hx
    have w : px_w32 (((W.length + 1 : Nat) : Int) - 1) = (W.length : Int) := by rw [ty_w (by omega)]; omega
    have hb := b167_0 (L := L) (t := tt) hr d j l rk
    rw [h1, w, h4, hF.1] at hb
    have hb := hb (by intros; omega) (by intros; omega)
    rw [if_neg (by omega)] at hb
    unfold tz_wk
    rw [hb]
    by_cases hg : g = F.length
    · rw [if_pos (by omega), tz_166 hr _ _ _ b _ h2 h3, Option.bind_some, px_psh_some]
      have hb2 := b167_39 (L := L) (t := tt) hr d j l rk (tz_rk b)
      rw [h1, w] at hb2
      rw [hb2 (by intros; omega)]
      by_cases hk : tz_rk b < rk
      · rw [if_pos hk, if_neg (by omega)]
        exact ⟨j, rfl, ⟨by rw [List.length_cons]; exact h1, ⟨h2, h3, h4⟩, h5⟩, hC, tz_q_rf⟩
      · rw [if_neg hk, if_pos ⟨hg, by omega⟩]
        have q1 : tz_q [] [25] j (px_up j 123 25 (W.length : Int)) := tz_q_f (by decide)
        obtain ⟨j1, r1, c1, q2⟩ := tz_162 (L := L) (r := r) (tt := tt) hr d (px_up j 123 25 (W.length : Int)) l X (10000 + b) (j 134 (W.length : Int)) 0 (tz_pC_q q1 rfl rfl hC) (by omega) (by
          right
          unfold tz_wo at h2
          exact ⟨by omega, h3⟩)
        have q3 : tz_q [138, 139] [25, 33] j j1 := tz_q_tr q1 q2 rfl rfl rfl rfl
        obtain ⟨j2, r2, w2, c2, q4⟩ := tz_167_n hr d l rk F W ((10000 + b) :: X) j1 ⟨by rw [q2.2 25 (by decide), ty_up_eq], by
          rw [q3.1 134 (by decide) (by decide), q3.1 135 (by decide) (by decide)]
          exact h5⟩ c1 (tz_pF_q q3 rfl rfl hF) (by omega) (by rw [List.length_cons]; omega)
        refine ⟨j2, ?_, w2, c2, tz_q_tr q3 q4 rfl rfl rfl rfl⟩
        rw [r1, Option.bind_some, px_psh_none, b167_67 hr, r2]
    · rw [if_neg (by omega), if_neg (fun h => hg h.1)]
      exact ⟨j, rfl, ⟨by rw [List.length_cons]; exact h1, ⟨h2, h3, h4⟩, h5⟩, hC, tz_q_rf⟩
theorem tz_167 (hr : px_hr r) (d : Nat) (j l : MI) (rk : Int) (F : List (Int × Int)) (W : List (Int × Nat)) (C Y : List Int) (hW : tz_pW W j) (hC : tz_pC (C ++ Y) j) (hF : tz_pF F j) (hl : W.length ≤ 60) (hx : (C ++ Y).length + W.length < 400) :
    ∃ j1 : MI, px_C (d + 1) 167 [vR 123, vI rk] (px_sh L, j, l, r, tt) = some (none, (px_sh L, j1, l, r, tt)) ∧ tz_pW (tz_wk F.length rk W C).1 j1 ∧ tz_pC ((tz_wk F.length rk W C).2 ++ Y) j1 ∧ tz_q [138, 139] [25, 33] j j1 := by
  obtain ⟨j1, r1, w1, c1, q1⟩ := tz_167_n (L := L) (r := r) (tt := tt) hr d l rk F W (C ++ Y) j hW hC hF hl hx
  rw [tz_wk_app] at w1 c1
  exact ⟨j1, by rw [e167, r1], w1, c1, q1⟩
/-- frames of a kind over -/
theorem tz_172_n (hr : px_hr r) (d : Nat) (l : MI) : ∀ (F : List (Int × Int)) (X : List Int) (o : Int) (j : MI), tz_pF F j → tz_pC X j → j 123 21 = o → -1000 ≤ o ∧ o ≤ 1000 → -970 ≤ o - F.length → tz_bt F → F.length ≤ 30 → X.length + F.length < 400 →
    ∃ j1 : MI, px_X (d + 1) 172 (0, [vR 123], []) (px_sh L, j, l, r, tt) = some (none, (px_sh L, j1, l, r, tt)) ∧ tz_pF (tz_ov 7 10020 F o X).1 j1 ∧ tz_pC (tz_ov 7 10020 F o X).2.2 j1 ∧ j1 123 21 = (tz_ov 7 10020 F o X).2.1 ∧ j1 123 28 = 2 ∧ tz_q [138, 139] [21, 22, 28, 33] j j1
  | [], X, o, j, hF, hC, ho, ho2, ho3, hbt, hl, hx => absurd hbt id
  | (a, b) :: F, X, o, j, hF, hC, ho, ho2, ho3, hbt, hl, hx => by
    have hF' := hF
    obtain ⟨h1, ⟨h2, h3⟩, h5⟩ := hF
    rw [List.length_cons] at h1 hl hx ho3
    have w : px_w32 (((F.length + 1 : Nat) : Int) - 1) = (F.length : Int) := by rw [ty_w (by omega)]; omega
    have w2 : px_w32 (o - 1) = o - 1 := ty_w (by omega)
    unfold tz_ov
    rw [b172_0 hr, tz_164 hr _ _ _ a b F hF' (by omega), Option.bind_some, px_psh_some, b172_4 hr, h1, w, ho, w2]
    by_cases ha : a = 7
    · rw [if_pos ha, if_pos ha]
      have hbt2 : tz_bt F := by
        rcases hbt with h | h
        · omega
        · exact h
      have q1 : tz_q [] [21, 22] j (px_up (px_up j 123 22 (F.length : Int)) 123 21 (o - 1)) := tz_q_tr (tz_q_f (Kc := []) (Fs := [22]) (by decide)) (tz_q_f (Kc := []) (Fs := [21]) (by decide)) rfl rfl rfl rfl
      obtain ⟨j1, r1, c1, q2⟩ := tz_162 (L := L) (r := r) (tt := tt) hr d (px_up (px_up j 123 22 (F.length : Int)) 123 21 (o - 1)) l X 10020 402 0 (tz_pC_q q1 rfl rfl hC) (by omega) (Or.inr ⟨by omega, by unfold ty_tok; omega⟩)
      have q3 : tz_q [138, 139] [21, 22, 33] j j1 := tz_q_tr q1 q2 rfl rfl rfl rfl
      obtain ⟨j2, r2, f2, c2, o2, s2, q4⟩ := tz_172_n hr d l F (10020 :: X) (o - 1) j1 ⟨by rw [q2.2 22 (by decide), ty_up_j (by decide), ty_up_eq], by
        rw [q3.1 132 (by decide) (by decide), q3.1 133 (by decide) (by decide)]
        exact h5⟩ c1 (by rw [q2.2 21 (by decide), ty_up_eq]) (by omega) (by omega) hbt2 (by omega) (by rw [List.length_cons]; omega)
      refine ⟨j2, ?_, f2, c2, o2, s2, tz_q_tr q3 q4 rfl rfl rfl rfl⟩
      rw [r1, Option.bind_some, px_psh_none, b172_37 hr, r2]
    · rw [if_neg ha, if_neg ha]
      have q1 : tz_q [] [28] j (px_up j 123 28 2) := tz_q_f (by decide)
      exact ⟨px_up j 123 28 2, rfl, tz_pF_q q1 rfl rfl hF', tz_pC_q q1 rfl rfl hC, by rw [ty_up_j (by decide)]; exact ho, ty_up_eq, tz_q_w q1 rfl rfl⟩
theorem tz_172 (hr : px_hr r) (d : Nat) (j l : MI) (F : List (Int × Int)) (C Y : List Int) (o : Int) (hF : tz_pF F j) (hC : tz_pC (C ++ Y) j) (ho : j 123 21 = o) (hob : -110 ≤ o ∧ o ≤ 8) (hb : tz_bt F) (hl : F.length ≤ 30) (hx : (C ++ Y).length + F.length < 400) :
    ∃ j1 : MI, px_C (d + 1) 172 [vR 123] (px_sh L, j, l, r, tt) = some (none, (px_sh L, j1, l, r, tt)) ∧ tz_pF (tz_ov 7 10020 F o C).1 j1 ∧ tz_pC ((tz_ov 7 10020 F o C).2.2 ++ Y) j1 ∧ j1 123 21 = (tz_ov 7 10020 F o C).2.1 ∧ j1 123 28 = 2 ∧ tz_q [138, 139] [21, 22, 28, 33] j j1 := by
  obtain ⟨j1, r1, f1, c1, o1, s1, q1⟩ := tz_172_n (L := L) (r := r) (tt := tt) hr d l F (C ++ Y) o j hF hC ho (by omega) (by omega) hb hl hx
  rw [tz_ov_app] at f1 c1 o1
  exact ⟨j1, by rw [e172, r1], f1, c1, o1, s1, q1⟩
theorem tz_173_n (hr : px_hr r) (d : Nat) (l : MI) : ∀ (F : List (Int × Int)) (X : List Int) (o : Int) (j : MI), tz_pF F j → tz_pC X j → j 123 21 = o → -1000 ≤ o ∧ o ≤ 1000 → -970 ≤ o - F.length → tz_bt F → F.length ≤ 30 → X.length + F.length < 400 →
    ∃ j1 : MI, px_X (d + 1) 173 (0, [vR 123], []) (px_sh L, j, l, r, tt) = some (none, (px_sh L, j1, l, r, tt)) ∧ tz_pF (tz_ov 3 10032 F o X).1 j1 ∧ tz_pC (tz_ov 3 10032 F o X).2.2 j1 ∧ j1 123 21 = (tz_ov 3 10032 F o X).2.1 ∧ j1 123 28 = 3 ∧ tz_q [138, 139] [21, 22, 28, 33] j j1
  | [], X, o, j, hF, hC, ho, ho2, ho3, hbt, hl, hx => absurd hbt id
  | (a, b) :: F, X, o, j, hF, hC, ho, ho2, ho3, hbt, hl, hx => by
    have hF' := hF
    obtain ⟨h1, ⟨h2, h3⟩, h5⟩ := hF
    rw [List.length_cons] at h1 hl hx ho3
    have w : px_w32 (((F.length + 1 : Nat) : Int) - 1) = (F.length : Int) := by rw [ty_w (by omega)]; omega
    have w2 : px_w32 (o - 1) = o - 1 := ty_w (by omega)
    unfold tz_ov
    rw [b173_0 hr, tz_164 hr _ _ _ a b F hF' (by omega), Option.bind_some, px_psh_some, b173_4 hr, h1, w, ho, w2]
    by_cases ha : a = 3
    · rw [if_pos ha, if_pos ha]
      have hbt2 : tz_bt F := by
        rcases hbt with h | h
        · omega
        · exact h
      have q1 : tz_q [] [21, 22] j (px_up (px_up j 123 22 (F.length : Int)) 123 21 (o - 1)) := tz_q_tr (tz_q_f (Kc := []) (Fs := [22]) (by decide)) (tz_q_f (Kc := []) (Fs := [21]) (by decide)) rfl rfl rfl rfl
      obtain ⟨j1, r1, c1, q2⟩ := tz_162 (L := L) (r := r) (tt := tt) hr d (px_up (px_up j 123 22 (F.length : Int)) 123 21 (o - 1)) l X 10032 405 0 (tz_pC_q q1 rfl rfl hC) (by omega) (Or.inr ⟨by omega, by unfold ty_tok; omega⟩)
      have q3 : tz_q [138, 139] [21, 22, 33] j j1 := tz_q_tr q1 q2 rfl rfl rfl rfl
      obtain ⟨j2, r2, f2, c2, o2, s2, q4⟩ := tz_173_n hr d l F (10032 :: X) (o - 1) j1 ⟨by rw [q2.2 22 (by decide), ty_up_j (by decide), ty_up_eq], by
        rw [q3.1 132 (by decide) (by decide), q3.1 133 (by decide) (by decide)]
        exact h5⟩ c1 (by rw [q2.2 21 (by decide), ty_up_eq]) (by omega) (by omega) hbt2 (by omega) (by rw [List.length_cons]; omega)
      refine ⟨j2, ?_, f2, c2, o2, s2, tz_q_tr q3 q4 rfl rfl rfl rfl⟩
      rw [r1, Option.bind_some, px_psh_none, b173_36 hr, r2]
    · rw [if_neg ha, if_neg ha]
      have q1 : tz_q [] [28] j (px_up j 123 28 3) := tz_q_f (by decide)
      exact ⟨px_up j 123 28 3, rfl, tz_pF_q q1 rfl rfl hF', tz_pC_q q1 rfl rfl hC, by rw [ty_up_j (by decide)]; exact ho, ty_up_eq, tz_q_w q1 rfl rfl⟩
theorem tz_173 (hr : px_hr r) (d : Nat) (j l : MI) (F : List (Int × Int)) (C Y : List Int) (o : Int) (hF : tz_pF F j) (hC : tz_pC (C ++ Y) j) (ho : j 123 21 = o) (hob : -110 ≤ o ∧ o ≤ 8) (hb : tz_bt F) (hl : F.length ≤ 30) (hx : (C ++ Y).length + F.length < 400) :
    ∃ j1 : MI, px_C (d + 1) 173 [vR 123] (px_sh L, j, l, r, tt) = some (none, (px_sh L, j1, l, r, tt)) ∧ tz_pF (tz_ov 3 10032 F o C).1 j1 ∧ tz_pC ((tz_ov 3 10032 F o C).2.2 ++ Y) j1 ∧ j1 123 21 = (tz_ov 3 10032 F o C).2.1 ∧ j1 123 28 = 3 ∧ tz_q [138, 139] [21, 22, 28, 33] j j1 := by
  obtain ⟨j1, r1, f1, c1, o1, s1, q1⟩ := tz_173_n (L := L) (r := r) (tt := tt) hr d l F (C ++ Y) o j hF hC ho (by omega) (by omega) hb hl hx
  rw [tz_ov_app] at f1 c1 o1
  exact ⟨j1, by rw [e173, r1], f1, c1, o1, s1, q1⟩
/-- opensSign -/
theorem tz_165 (hr : px_hr r) {K U PL BH : Nat → Int} {T : Int → Int} {N : Int} {m t : Nat} (hX : tz_NX K U PL BH T N m) (d : Nat) (j l : MI) (F : List (Int × Int)) (a o : Int) (hT : tz_pT K U PL BH T N m t j) (ht : t < m) (hF : tz_pF F j) (hl : F.length < 40) (ha : ¬ a = 5) (ho : j 123 21 = o) (hob : -110 ≤ o ∧ o ≤ 8) (h8 : ¬ o = 8) :
    ∃ j1 : MI, px_C (d + 3 + 1) 165 [vR 123, vI a] (px_sh L, j, l, r, tt) = some (some (vI 1), (px_sh L, j1, l, r, tt)) ∧ tz_pT K U PL BH T N m (t + 1) j1 ∧ tz_pF ((a, 0) :: F) j1 ∧ j1 123 21 = o + 1 ∧ tz_q [132] [15, 16, 17, 18, 21, 22] j j1 := by
  have w : px_w32 (o + 1) = o + 1 := ty_w (by omega)
  have q0 : tz_q [] [21] j (px_up j 123 21 (o + 1)) := tz_q_f (by decide)
  obtain ⟨j1, r1, f1, q1⟩ := tz_163 (L := L) (r := r) (tt := tt) hr (d + 3) (px_up j 123 21 (o + 1)) l F a (tz_pF_q q0 rfl rfl hF) hl ha
  have q2 : tz_q [132] [21, 22] j j1 := tz_q_tr q0 q1 rfl rfl rfl rfl
  obtain ⟨j2, r2, t2, q3⟩ := hX L tt r hr d j1 l t ht (tz_pT_q q2 rfl rfl hT)
  refine ⟨j2, ?_, t2, tz_pF_q q3 rfl rfl f1, ?_, tz_q_tr q2 q3 rfl rfl rfl rfl⟩
  · rw [e165, b165_0 hr, ho, if_neg h8, w, r1, Option.bind_some, px_psh_none, b165_31 hr, r2, Option.bind_some, px_psh_none, b165_35 hr]
  · rw [q3.2 21 (by decide), q1.2 21 (by decide), ty_up_eq]
theorem tz_165e (hr : px_hr r) (d : Nat) (j l : MI) (a : Int) (ho : j 123 21 = 8) (h : j 123 19 = 0) : px_C (d + 1) 165 [vR 123, vI a] (px_sh L, j, l, r, tt) = some (some (vI 0), (px_sh L, px_up (px_up j 123 19 3) 123 20 (j 123 16), l, r, tt)) := by
  rw [e165, b165_0 hr, if_pos ho, tz_161 hr _ _ _ _ h, Option.bind_some, px_psh_none, b165_14 hr]
/-- waitsFor -/
theorem tz_168 (hr : px_hr r) {K U PL BH : Nat → Int} {T : Int → Int} {N : Int} {m t : Nat} (hX : tz_NX K U PL BH T N m) (d : Nat) (j l : MI) (F : List (Int × Int)) (W : List (Int × Nat)) (C Y : List Int) (b op : Int) (hb : tz_wo b) (hop : ty_tok (10000 + b) op 0) (hT : tz_pT K U PL BH T N m t j) (ht : t < m) (hF : tz_pF F j) (hW : tz_pW W j) (hC : tz_pC (C ++ Y) j) (hl : W.length ≤ 60) (hx : (C ++ Y).length + W.length < 400) :
    ∃ j1 : MI, px_C (d + 3 + 1) 168 [vR 123, vI op] (px_sh L, j, l, r, tt) = some (none, (px_sh L, j1, l, r, tt)) ∧ tz_pT K U PL BH T N m (t + 1) j1 ∧ tz_pW ((b, F.length) :: (tz_wk F.length (tz_rk b) W C).1) j1 ∧ tz_pC ((tz_wk F.length (tz_rk b) W C).2 ++ Y) j1 ∧ tz_q [134, 135, 138, 139] [15, 16, 17, 18, 25, 33] j j1 := by
  obtain ⟨j1, r1, w1, c1, q1⟩ := tz_167 (L := L) (r := r) (tt := tt) hr (d + 2) j l (tz_rk b) F W C Y hW hC hF hl hx
  have hle := (tz_wk_len F.length (tz_rk b) W C).2
  obtain ⟨V, hV⟩ : ∃ V, V = (tz_wk F.length (tz_rk b) W C).1 := ⟨_, rfl⟩
  rw [← hV] at w1 hle ⊢
  obtain ⟨w11, w12⟩ := w1
  have hF1 := tz_pF_q q1 rfl rfl hF
  have w : px_w32 ((V.length : Int) + 1) = (V.length : Int) + 1 := ty_w (by omega)
  obtain ⟨j2, hj2⟩ : ∃ j2 : MI, j2 = px_up (px_up (px_up j1 134 (V.length : Int) op) 135 (V.length : Int) (F.length : Int)) 123 25 ((V.length : Int) + 1) := ⟨_, rfl⟩
  have q2 : tz_q [134, 135] [25] j1 j2 := by
    rw [hj2]
    exact tz_q_tr (tz_q_tr (tz_q_k (Kc := [134, 135]) (Fs := []) (by decide) (by decide)) (tz_q_k (Kc := [134, 135]) (Fs := []) (by decide) (by decide)) (Kc'' := [134, 135]) (Fs'' := []) rfl rfl rfl rfl) (tz_q_f (Kc := []) (Fs := [25]) (by decide)) rfl rfl rfl rfl
  have q12 : tz_q [134, 135, 138, 139] [25, 33] j j2 := tz_q_tr q1 q2 rfl rfl rfl rfl
  obtain ⟨j3, r3, t3, q3⟩ := hX L tt r hr d j2 l t ht (tz_pT_q q12 rfl rfl hT)
  have hW2 : tz_pW ((b, F.length) :: V) j2 := by
    refine ⟨?_, ⟨hb, ?_, ?_⟩, ?_⟩
    · rw [hj2, ty_up_eq, List.length_cons]
      omega
    · rw [hj2, ty_up_k (by decide), ty_up_k (by decide), ty_up_eq]
      exact hop
    · rw [hj2, ty_up_k (by decide), ty_up_eq]
    · refine tz_hW_c (fun x x0 x1 => ?_) w12
      rw [hj2, ty_up_k (by decide), ty_up_k (by decide), ty_up_j (by omega), ty_up_k (by decide), ty_up_j (by omega), ty_up_k (by decide)]
      exact ⟨rfl, rfl⟩
  refine ⟨j3, ?_, t3, tz_pW_q q3 rfl rfl hW2, tz_pC_q q3 rfl rfl (tz_pC_q q2 rfl rfl c1), tz_q_tr q12 q3 rfl rfl rfl rfl⟩
  have hb8 := b168_8 (L := L) (t := tt) hr (d + 3) j1 l op
  rw [w11, hF1.1, w, ← hj2] at hb8
  rw [e168, b168_0 hr, tz_166 hr _ _ _ b _ hb hop, Option.bind_some, px_psh_some, b168_5 hr, r1, Option.bind_some, px_psh_none, hb8 (by omega), r3, Option.bind_some, px_psh_none, b168_45 hr]
end TYPB
