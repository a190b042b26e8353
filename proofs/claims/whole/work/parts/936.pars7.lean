/-! text: readOne and readSum against the machine. -/
theorem tz_bd_mk {m t : Nat} {o : Int} {F : List (Int × Int)} {W : List (Int × Nat)} {C : List Int} {D : List (Int × List Int)} {kd : Int} (st : Int) (hst : st = 0 ∨ st = 1 ∨ st = 2 ∨ st = 3) (ht : t ≤ m) (ho : 0 ≤ o ∧ o ≤ 8) (hF : (F.length : Int) ≤ o + 2) (hW : W.length ≤ 2 * F.length + 2) (hC : (C ++ tz_gl D).length ≤ 310) (hD : D.length < 10) (hb : tz_bt F) : tz_bd m (t, o, F, W, st, C, D, kd) := by
  have e := tz_fl_len D
  rw [List.length_append] at hC
  refine ⟨⟨ht, by omega, ho.2, by omega, by omega⟩, ?_, by omega, Or.inl ⟨hst, hb, hD⟩⟩
  rw [List.length_append]
  omega
/-- the machine ends in a fault, and the class has it -/
def tz_bad (K U PL : Nat → Int) (m : Nat) (A : tz_RS) (i1 : MI) : Prop := ∃ (e : Int) (t' : Nat), tz_er e (PL t') i1 ∧ tz_to K U m A (.inl (e, t'))
theorem tz_bad_s {K U PL : Nat → Int} {m : Nat} {A A' : tz_RS} {i1 : MI} (h : tz_to K U m A (.inr A')) (hb : tz_bad K U PL m A' i1) : tz_bad K U PL m A i1 := by
  obtain ⟨e, t', h1, h2⟩ := hb
  exact ⟨e, t', h1, tz_to_tr h h2⟩
/-- one read: the machine has read it too -/
def tz_og (K U PL : Nat → Int) (m : Nat) (A : tz_RS) (t : Nat) (o : Int) (F : List (Int × Int)) (W : List (Int × Nat)) (D : List (Int × List Int)) (kd : Int) (st : List Bool) (q : Nat) (i1 : MI) : Prop :=
  ∃ (t' : Nat) (C' : List Int), (t < t' ∧ t' ≤ m) ∧ tz_cm K U PL m kd t' o (C' ++ tz_gl D) i1 ∧ tz_to K U m A (.inr (t', o, F, W, 2, C', D, kd)) ∧ (C' ++ tz_gl D).length + q ≤ t' ∧ tz_ck C' = some (false :: st) ∧ tz_mc kd C'
/-- a sum read -/
def tz_sgd (K U PL : Nat → Int) (m : Nat) (A : tz_RS) (t : Nat) (o : Int) (F : List (Int × Int)) (W : List (Int × Nat)) (D : List (Int × List Int)) (kd : Int) (st : List Bool) (q : Nat) (i1 : MI) : Prop :=
  ∃ (t' : Nat) (W2 : List (Int × Nat)) (C2 C1 : List Int), (t < t' ∧ t' ≤ m) ∧ tz_cm K U PL m kd t' o (C1 ++ tz_gl D) i1 ∧ tz_to K U m A (.inr (t', o, F, W2, 2, C2, D, kd)) ∧ ((∀ rk : Int, rk ≤ 3 → tz_wk F.length rk W2 C2 = (W, C1)) ∧ W2.length ≤ W.length + 2 ∧ C2.length ≤ C1.length) ∧ ¬ (10 ≤ K t' ∧ K t' ≤ 13) ∧ (C1 ++ tz_gl D).length + q ≤ t' ∧ tz_ck C1 = some (false :: st) ∧ tz_mc kd C1
/-- what a token may be -/
def tz_tk (K U : Nat → Int) (m : Nat) : Prop := m ≤ 300 ∧ (∀ t, t ≤ m → (K t = 0 ↔ t = m)) ∧ (∀ t, t ≤ m → 0 ≤ K t ∧ K t ≤ 47) ∧ ∀ t, t < m → K t = 2 → 0 ≤ U t
theorem tz_ck_n {C : List Int} {st : List Bool} (h : tz_ck C = some (false :: st)) : ∀ n : Nat, tz_ck (List.replicate n 10020 ++ C) = some (false :: st)
  | 0 => h
  | n + 1 => by
    rw [List.replicate_succ]
    show (tz_ck (List.replicate n 10020 ++ C)).bind (ty_step 10020) = _
    rw [tz_ck_n h n]
    rfl
theorem tz_ck_push {C : List Int} {st : List Bool} {c : Int} (h : tz_ck C = some st) (hl : st.length < 32) (hc : c < 10000 ∨ 10033 ≤ c) : tz_ck (c :: C) = some (false :: st) := by
  show (tz_ck C).bind (ty_step c) = _
  rw [h, Option.bind_some]
  unfold ty_step
  rw [if_pos hc, if_pos hl]
theorem tz_ck_bin {C : List Int} {st : List Bool} {c : Int} (h : tz_ck C = some (false :: false :: st)) (hc : 10010 ≤ c ∧ c ≤ 10013) : tz_ck (c :: C) = some (false :: st) := by
  show (tz_ck C).bind (ty_step c) = _
  rw [h, Option.bind_some]
  unfold ty_step
  rw [if_neg (by omega), if_neg (by omega), if_neg (by omega), if_neg (by omega), if_pos (by omega)]
/-- the contract of readSum's loop, as far as so many tokens are left -/
def tz_SP (K U PL : Nat → Int) (m : Nat) (D : List (Int × List Int)) (kd : Int) (k : Nat) : Prop := ∀ (L tt : Nat) (r : MR), px_hr r → ∀ (dp e : Nat) (i l : MI) (t : Nat) (o : Int) (F : List (Int × Int)) (W : List (Int × Nat)) (C : List Int) (st : List Bool) (q : Nat) (add sca x3 : Int) (v4 : PV), px_nl v4 → tz_sg add sca → 0 ≤ x3 ∧ x3 ≤ (t : Int) → m + 1 ≤ t + k → 8 - o ≤ (e : Int) →
  tz_cm K U PL m kd t o (C ++ tz_gl D) i → t ≤ m → (C ++ tz_gl D).length + q + (tz_pd add sca F.length).length ≤ t → tz_fw o F W → (∀ y, y ∈ F.head? → ¬ y.1 = 7) → tz_ck C = some ((if sca = 0 then [] else [false]) ++ (if add = 0 then [] else [false]) ++ st) → (st.length : Int) ≤ 3 + 2 * o → tz_mc kd C →
  ∃ i1 : MI, px_X (dp + 2 * e + 3 + 1) 105 (6, [vR 58, vI add, vI sca, vI x3, v4], []) (px_sh L, i, l, r, tt) = some (none, (px_sh L, i1, l, r, tt)) ∧ tz_cq i i1 ∧
    (tz_sgd K U PL m (t, o, F, tz_pd add sca F.length ++ W, 1, C, D, kd) t o F W D kd st q i1 ∨ tz_bad K U PL m (t, o, F, tz_pd add sca F.length ++ W, 1, C, D, kd) i1)
section TYCO
variable {L tt : Nat} {r : MR} {K U PL : Nat → Int} {m : Nat} {D : List (Int × List Int)} {kd : Int}
theorem tz_one_g (hr : px_hr r) (d : Nat) (i l : MI) (t1 : Nat) (o0 : Int) (n : Nat) (F : List (Int × Int)) (W : List (Int × Nat)) (C1 : List Int) (st : List Bool) (q : Nat) (x2 : Int) (hm : m ≤ 300) (ho : 0 ≤ o0 ∧ o0 + n ≤ 8) (hF : ∀ y, y ∈ F.head? → ¬ y.1 = 7) (h : tz_cm K U PL m kd t1 (o0 + n) (C1 ++ tz_gl D) i) (ht : t1 < m) (hl : (C1 ++ tz_gl D).length + q + n ≤ t1 + 1) (hk : tz_ck C1 = some (false :: st)) (hc : tz_mc kd C1) :
    ∃ (i1 : MI) (C' : List Int), px_X (d + 1) 106 (270, [vR 58, vI (n : Int), vI x2, vJ], []) (px_sh L, i, l, r, tt) = some (none, (px_sh L, i1, l, r, tt)) ∧ tz_cq i i1 ∧ tz_cm K U PL m kd (t1 + 1) o0 (C' ++ tz_gl D) i1 ∧ tz_o1 (t1 + 1) (o0 + n) (List.replicate n (7, 0) ++ F) W C1 D kd = (t1 + 1, o0, F, W, 2, C', D, kd) ∧ (C' ++ tz_gl D).length + q ≤ t1 + 1 ∧ tz_ck C' = some (false :: st) ∧ tz_mc kd C' := by
  obtain ⟨i1, r1, c1, q1⟩ := tz_one_t (L := L) (r := r) (tt := tt) hr d i l n x2 (by omega) (C1 ++ tz_gl D) h (by omega) (by omega) (by omega)
  rw [show o0 + (n : Int) - (n : Int) = o0 by omega, ← List.append_assoc] at c1
  refine ⟨i1, List.replicate n 10020 ++ C1, r1, q1, c1, ?_, ?_, tz_ck_n hk n, fun c hcc => ?_⟩
  · unfold tz_o1
    rw [tz_ov_n 7 10020 F hF n (o0 + n) C1, show o0 + (n : Int) - (n : Int) = o0 by omega]
  · rw [List.append_assoc, List.length_append, List.length_replicate]
    omega
  · rcases List.mem_append.mp hcc with g | g
    · rw [(List.mem_replicate.mp g).2]
      exact ⟨by omega, fun g => by omega⟩
    · exact hc c g
/-- one, behind its minuses -/
theorem tz_one_p (hr : px_hr r) (hK : tz_tk K U m) (k : Nat) (HS : tz_SP K U PL m D kd k) (dp e : Nat) (i l : MI) (t : Nat) (o0 : Int) (n : Nat) (F : List (Int × Int)) (W : List (Int × Nat)) (C : List Int) (st : List Bool) (q : Nat) (hk : m + 1 ≤ t + (k + 1)) (he : 8 - o0 ≤ (e : Int)) (h11 : ¬ K t = 11) (h : tz_cm K U PL m kd t (o0 + n) (C ++ tz_gl D) i) (ht : t ≤ m) (hl : (C ++ tz_gl D).length + q + n ≤ t)
    (hb : tz_bt F) (hFo : (F.length : Int) ≤ o0 + 2 ∧ 0 ≤ o0 ∧ o0 + n ≤ 8 ∧ W.length ≤ 2 * F.length) (hW : ∀ x, x ∈ W.head? → x.2 < F.length + 1) (hF : ∀ y, y ∈ F.head? → ¬ y.1 = 7) (hD : D.length < 10) (hck : tz_ck C = some st) (hst : (st.length : Int) ≤ 5 + 2 * o0) (hc : tz_mc kd C) :
    ∃ i1 : MI, px_X (dp + 2 * e + 2 + 1) 106 (70, [vR 58, vI (n : Int), vI (n : Int), vJ], []) (px_sh L, i, l, r, tt) = some (none, (px_sh L, i1, l, r, tt)) ∧ tz_cq i i1 ∧
      (tz_og K U PL m (t, o0 + n, List.replicate n (7, 0) ++ F, W, 1, C, D, kd) t o0 F W D kd st q i1 ∨ tz_bad K U PL m (t, o0 + n, List.replicate n (7, 0) ++ F, W, 1, C, D, kd) i1) := by
  obtain ⟨hm, hK0, hK47, hU⟩ := hK
  have hk0 := hK0 t ht
  have hkb := hK47 t ht
  have hFl : (List.replicate n ((7 : Int), (0 : Int)) ++ F).length = n + F.length := by rw [List.length_append, List.length_replicate]
  have hbn := tz_bt_app 7 F hb n
  have hbd : tz_bd m (t, o0 + n, List.replicate n (7, 0) ++ F, W, 1, C, D, kd) := tz_bd_mk 1 (by omega) ht (by omega) (by rw [hFl]; omega) (by rw [hFl]; omega) (by omega) hD hbn
  have hn4 : ¬ ((t, o0 + n, List.replicate n ((7 : Int), (0 : Int)) ++ F, W, (1 : Int), C, D, kd).2.2.2.2.1 = 4 ∧ K (t, o0 + n, List.replicate n ((7 : Int), (0 : Int)) ++ F, W, (1 : Int), C, D, kd).1 = 0) := fun g => absurd g.1 (show ¬ (1 : Int) = 4 by omega)
  -- the machine's step
  have hstp : tz_stp K U (t, o0 + n, List.replicate n (7, 0) ++ F, W, 1, C, D, kd) = tz_s1 K U t (o0 + n) (List.replicate n (7, 0) ++ F) W C D kd := rfl
  -- a fault
  have bad : ∀ (x2 : Int) (i1 : MI) (f : Int), tz_er f (PL t) i1 → tz_cq i i1 → tz_stp K U (t, o0 + n, List.replicate n (7, 0) ++ F, W, 1, C, D, kd) = .inl f → ∃ i2 : MI, px_X (dp + 2 * e + 2 + 1) 106 (270, [vR 58, vI (n : Int), vI x2, vJ], []) (px_sh L, i1, l, r, tt) = some (none, (px_sh L, i2, l, r, tt)) ∧ tz_cq i i2 ∧
      (tz_og K U PL m (t, o0 + n, List.replicate n (7, 0) ++ F, W, 1, C, D, kd) t o0 F W D kd st q i2 ∨ tz_bad K U PL m (t, o0 + n, List.replicate n (7, 0) ++ F, W, 1, C, D, kd) i2) := fun x2 i1 f h1 h2 h3 => by
    obtain ⟨i2, r2, c2, q2⟩ := tz_one_te (L := L) (r := r) (tt := tt) hr (dp + 2 * e + 2) i1 l n x2 f (PL t) (by omega) h1
    exact ⟨i2, r2, tz_cq_tr h2 q2, Or.inr ⟨f, t, c2, tz_to_e hbd hn4 h3⟩⟩
  -- a number or a name
  have leaf : ∀ (x2 : Int) (i1 : MI) (c : Int), tz_cm K U PL m kd t (o0 + n) ((c :: C) ++ tz_gl D) i1 → tz_cq i i1 → t < m → (c < 10000 ∨ 10033 ≤ c) → (0 ≤ c ∧ (10033 ≤ c → ty_may kd (c - 10033))) → tz_stp K U (t, o0 + n, List.replicate n (7, 0) ++ F, W, 1, C, D, kd) = .inr (tz_o1 (t + 1) (o0 + n) (List.replicate n (7, 0) ++ F) W (c :: C) D kd) → ∃ i2 : MI, px_X (dp + 2 * e + 2 + 1) 106 (270, [vR 58, vI (n : Int), vI x2, vJ], []) (px_sh L, i1, l, r, tt) = some (none, (px_sh L, i2, l, r, tt)) ∧ tz_cq i i2 ∧
      (tz_og K U PL m (t, o0 + n, List.replicate n (7, 0) ++ F, W, 1, C, D, kd) t o0 F W D kd st q i2 ∨ tz_bad K U PL m (t, o0 + n, List.replicate n (7, 0) ++ F, W, 1, C, D, kd) i2) := fun x2 i1 c h1 h2 htm hcc hcm h3 => by
    obtain ⟨i2, C', r2, q2, c2, e2, l2, k2, m2⟩ := tz_one_g (L := L) (r := r) (tt := tt) hr (dp + 2 * e + 2) i1 l t o0 n F W (c :: C) st q x2 hm (by omega) hF h1 htm (by rw [List.cons_append, List.length_cons]; omega) (tz_ck_push hck (by omega) hcc) (tz_mc_cons hcm hc)
    rw [e2] at h3
    exact ⟨i2, r2, tz_cq_tr h2 q2, Or.inl ⟨t + 1, C', ⟨by omega, by omega⟩, c2, tz_to_s hbd hn4 h3 tz_to_rf, l2, k2, m2⟩⟩
  have h33 := tz_33 (L := L) (r := r) (tt := tt) hr (dp + 2 * e + 2) i l h ht hm
  rw [b106_70 hr, h33, Option.bind_some, px_psh_some, b106_81 hr, h.2.2.1.2.2]
  by_cases k3 : K t = 3
  · have htm : t < m := by omega
    rw [if_pos k3]
    by_cases h8 : o0 + n < 8
    · -- a bracket
      rw [if_pos h8, b106_104 hr, if_pos k3, h.2.2.1.2.2, h.2.2.1.2.1]
      rw [show px_w32 (o0 + n + 1) = o0 + n + 1 from ty_w (by omega), show px_w32 ((t : Int) + 1) = ((t + 1 : Nat) : Int) by rw [ty_w (by omega)]; omega]
      obtain ⟨ia, hia⟩ : ∃ ia : MI, ia = px_up (px_up i 58 10 (o0 + n + 1)) 58 9 ((t + 1 : Nat) : Int) := ⟨_, rfl⟩
      rw [← hia]
      have qa : tz_cq i ia := by
        rw [hia]
        exact tz_cq_tr (tz_cq_8 (by omega)) (tz_cq_8 (by omega))
      have ca : tz_cm K U PL m kd (t + 1) (o0 + n + 1) (C ++ tz_gl D) ia := tz_cm_8 h (fun k' hk' => by rw [hia, ty_up_row hk', ty_up_row hk']) (by rw [hia, ty_up_j (by decide), ty_up_j (by decide)]) (by rw [hia, ty_up_j (by decide), ty_up_j (by decide)]; exact h.2.2.1.1) (by rw [hia, ty_up_eq]) (by rw [hia, ty_up_j (by decide), ty_up_eq])
      obtain ⟨e1, rfl⟩ : ∃ e1 : Nat, e = e1 + 1 := ⟨e - 1, by omega⟩
      have hfw : tz_fw (o0 + n + 1) ((6, 0) :: (List.replicate n (7, 0) ++ F)) W := ⟨Or.inr hbn, ⟨by rw [List.length_cons, hFl]; omega, by omega, by omega, by rw [List.length_cons, hFl]; omega⟩, fun x hx => by
        have := hW x hx
        rw [List.length_cons, hFl]
        omega⟩
      obtain ⟨ib, rb, qb, ob⟩ := HS L tt r hr dp e1 ia l (t + 1) (o0 + n + 1) ((6, 0) :: (List.replicate n (7, 0) ++ F)) W C st (q + n) 0 0 0 vJ px_nl_J ⟨Or.inl rfl, Or.inl rfl⟩ (by omega) (by omega) (by omega) ca (by omega) (by rw [tz_pd_len]; simp only [if_pos]; omega) hfw (fun y hy => by
        have e0 : y = (6, 0) := (Option.some.inj hy).symm
        rw [e0]
        show ¬ (6 : Int) = 7
        omega) (by simpa using hck) (by omega) hc
      have ed : dp + 2 * (e1 + 1) + 2 = dp + 2 * e1 + 3 + 1 := by omega
      have rb' : px_C (dp + 2 * (e1 + 1) + 2) 105 [vR 58] (px_sh L, ia, l, r, tt) = some (none, (px_sh L, ib, l, r, tt)) := by
        rw [ed, e105, b105_0 hr, rb]
      have hto : tz_to K U m (t, o0 + n, List.replicate n (7, 0) ++ F, W, 1, C, D, kd) (.inr (t + 1, o0 + n + 1, (6, 0) :: (List.replicate n (7, 0) ++ F), W, 1, C, D, kd)) := tz_to_s hbd hn4 (by
        rw [hstp]
        unfold tz_s1
        rw [if_neg (by omega), if_neg (by omega), if_pos k3, if_neg (by omega)]) tz_to_rf
      have epd : tz_pd 0 0 ((6, 0) :: (List.replicate n ((7 : Int), (0 : Int)) ++ F)).length ++ W = W := rfl
      rw [epd] at ob
      rw [rb', Option.bind_some, px_psh_none, b106_133 hr]
      rcases ob with ⟨t', W2, C2, C1, ⟨t1, t2⟩, c1, to1, ⟨wk1, wl1, cl1⟩, nop, len1, ck1, mc1⟩ | ⟨f, t', er1, to1⟩
      · have h33b := tz_33 (L := L) (r := r) (tt := tt) hr (dp + 2 * (e1 + 1) + 2) ib l c1 t2 hm
        have hk0' := hK0 t' t2
        have hbd2 : tz_bd m (t', o0 + n + 1, (6, 0) :: (List.replicate n (7, 0) ++ F), W2, 2, C2, D, kd) := tz_bd_mk 2 (by omega) t2 (by omega) hfw.2.1.1 (by have := hfw.2.1.2.2.2; omega) (by rw [List.length_append] at len1 ⊢; omega) hD (Or.inr hbn)
        have hn42 : ¬ ((t', o0 + n + 1, ((6 : Int), (0 : Int)) :: (List.replicate n ((7 : Int), (0 : Int)) ++ F), W2, (2 : Int), C2, D, kd).2.2.2.2.1 = 4 ∧ K (t', o0 + n + 1, ((6 : Int), (0 : Int)) :: (List.replicate n ((7 : Int), (0 : Int)) ++ F), W2, (2 : Int), C2, D, kd).1 = 0) := fun g => absurd g.1 (show ¬ (2 : Int) = 4 by omega)
        have hstp2 : tz_stp K U (t', o0 + n + 1, (6, 0) :: (List.replicate n (7, 0) ++ F), W2, 2, C2, D, kd) = tz_s2 K t' (o0 + n + 1) ((6, 0) :: (List.replicate n (7, 0) ++ F)) W2 C2 D kd := rfl
        have ehd : (((6 : Int), (0 : Int)) :: (List.replicate n ((7 : Int), (0 : Int)) ++ F)).headD (0, 0) = (6, 0) := rfl
        have etl : (((6 : Int), (0 : Int)) :: (List.replicate n ((7 : Int), (0 : Int)) ++ F)).tail = List.replicate n (7, 0) ++ F := rfl
        rw [h33b, Option.bind_some, px_psh_some, b106_144 hr]
        by_cases k4 : K t' = 4
        · -- it is closed
          rw [if_pos k4, b106_153 hr, c1.2.2.1.2.2]
          rw [show px_w32 (o0 + n + 1 - 1) = o0 + n by rw [ty_w (by omega)]; omega]
          have cc : tz_cm K U PL m kd t' (o0 + n) (C1 ++ tz_gl D) (px_up ib 58 10 (o0 + n)) := tz_cm_8 c1 (fun k' hk' => ty_up_row hk') (ty_up_j (by decide)) (by rw [ty_up_j (by decide)]; exact c1.2.2.1.1) (by rw [ty_up_j (by decide)]; exact c1.2.2.1.2.1) ty_up_eq
          obtain ⟨ic, C', rc, qc, cc2, ec, lc, kc, mc⟩ := tz_one_g (L := L) (r := r) (tt := tt) hr (dp + 2 * (e1 + 1) + 2) (px_up ib 58 10 (o0 + n)) l t' o0 n F W C1 st q (K t) hm (by omega) hF cc (by omega) (by omega) ck1 mc1
          refine ⟨ic, rc, tz_cq_tr qa (tz_cq_tr qb (tz_cq_tr (tz_cq_8 (by omega)) qc)), Or.inl ⟨t' + 1, C', ⟨by omega, by omega⟩, cc2, tz_to_tr hto (tz_to_tr to1 (tz_to_s hbd2 hn42 ?_ tz_to_rf)), lc, kc, mc⟩⟩
          rw [hstp2]
          unfold tz_s2
          rw [ehd, etl, if_neg nop, if_pos ⟨rfl, k4⟩, wk1 3 (by omega), ← ec, show o0 + (n : Int) + 1 - 1 = o0 + n by omega]
        · obtain ⟨ic, rc, ec, qc⟩ := tz_101 (L := L) (r := r) (tt := tt) hr (dp + 2 * (e1 + 1) + 2) ib l 1 (by omega) c1 t2 hm
          obtain ⟨id, rd, ed2, qd⟩ := tz_one_te (L := L) (r := r) (tt := tt) hr (dp + 2 * (e1 + 1) + 2) (px_up ic 58 10 (px_w32 (ic 58 10 - 1))) l n (K t) 1 (PL t') (by omega) (tz_er_8 ec (by decide) (by decide))
          refine ⟨id, ?_, tz_cq_tr qa (tz_cq_tr qb (tz_cq_tr qc (tz_cq_tr (tz_cq_8 (by omega)) qd))), Or.inr ⟨1, t', ed2, tz_to_tr hto (tz_to_tr to1 (tz_to_e hbd2 hn42 ?_))⟩⟩
          · rw [if_neg k4, rc, Option.bind_some, px_psh_none, b106_153 hr, rd]
          · rw [hstp2]
            unfold tz_s2
            rw [ehd, if_neg nop, if_neg (fun g => k4 g.2), if_neg (fun g => absurd g.1 (show ¬ (6 : Int) = 4 by omega)), if_neg (show ¬ (6 : Int) = 5 by omega), if_neg (fun g => absurd g.1 (show ¬ (6 : Int) = 1 by omega))]
      · -- a fault within
        obtain ⟨v, hv⟩ := tz_33k (L := L) (r := r) (tt := tt) hr (dp + 2 * (e1 + 1) + 2) ib l (ib 58 9)
        obtain ⟨id, rd, ed2, qd⟩ := tz_one_te (L := L) (r := r) (tt := tt) hr (dp + 2 * (e1 + 1) + 2) (px_up ib 58 10 (px_w32 (ib 58 10 - 1))) l n (K t) f (PL t') (by omega) (tz_er_8 er1 (by decide) (by decide))
        refine ⟨id, ?_, tz_cq_tr qa (tz_cq_tr qb (tz_cq_tr (tz_cq_8 (by omega)) qd)), Or.inr ⟨f, t', ed2, tz_to_tr hto to1⟩⟩
        rw [hv, Option.bind_some, px_psh_some, b106_144 hr]
        by_cases hv4 : v = 4
        · rw [if_pos hv4, b106_153 hr, rd]
        · rw [if_neg hv4, tz_101e hr _ _ _ _ f (PL t') er1, Option.bind_some, px_psh_none, b106_153 hr, rd]
    · obtain ⟨i1, r1, e1, q1⟩ := tz_101 (L := L) (r := r) (tt := tt) hr (dp + 2 * e + 2) i l 3 (by omega) h ht hm
      rw [if_neg h8, r1, Option.bind_some, px_psh_none, b106_101 hr]
      exact bad _ i1 3 e1 q1 (by
        rw [hstp]
        unfold tz_s1
        rw [if_neg (by omega), if_neg (by omega), if_pos k3, if_pos (by omega)])
  · rw [if_neg k3, b106_104 hr, if_neg k3]
    by_cases k2 : K t = 2
    · have htm : t < m := by omega
      have hu := hU t htm k2
      have h33n := tz_33n (L := L) (r := r) (tt := tt) hr (dp + 2 * e + 2) i l h htm hm
      rw [if_pos k2, h33n, Option.bind_some, px_psh_some, b106_182 hr]
      by_cases hu9 : U t ≤ 9999
      · obtain ⟨i1, r1, c1, q1⟩ := tz_135 (L := L) (r := r) (tt := tt) hr (dp + 2 * e + 2) i l (U t) h (by omega)
        rw [if_pos hu9, b106_196 hr, if_pos k2, h33n, Option.bind_some, px_psh_some, b106_216 hr, r1, Option.bind_some, px_psh_none, b106_219 hr]
        exact leaf _ i1 (U t) c1 q1 htm (by omega) ⟨hu, fun g => by omega⟩ (by
          rw [hstp]
          unfold tz_s1
          rw [if_pos k2, if_neg (by omega)])
      · obtain ⟨i1, r1, e1, q1⟩ := tz_101 (L := L) (r := r) (tt := tt) hr (dp + 2 * e + 2) i l 2 (by omega) h ht hm
        rw [if_neg hu9, r1, Option.bind_some, px_psh_none, b106_193 hr]
        exact bad _ i1 2 e1 q1 (by
          rw [hstp]
          unfold tz_s1
          rw [if_pos k2, if_pos (by omega)])
    · rw [if_neg k2, b106_196 hr, if_neg k2]
      by_cases k33 : 33 ≤ K t
      · have htm : t < m := by omega
        have w4 : px_w32 (K t - 33) = K t - 33 := ty_w (by omega)
        have w5 : px_w32 (10000 + K t) = 10000 + K t := ty_w (by omega)
        have hbit := h.2.1.2.2 (K t - 33) (by omega) (by omega)
        rw [if_pos k33, w4, q32 hr _ _ _ _ _ h.2.1.1 h.2.1.2.1, Option.bind_some, px_psh_some, b106_247 hr, w5, hbit]
        by_cases hmb : tz_mb kd (K t - 33) = true
        · obtain ⟨i1, r1, c1, q1⟩ := tz_135 (L := L) (r := r) (tt := tt) hr (dp + 2 * e + 2) i l (10000 + K t) h (by omega)
          rw [px_bi_T ⟨by omega, by omega, hmb⟩, if_neg (by omega), r1, Option.bind_some, px_psh_none]
          exact leaf _ i1 (10000 + K t) c1 q1 htm (by omega) ⟨by omega, fun _ => by
            rw [show 10000 + K t - 10033 = K t - 33 by omega]
            exact tz_mb_may hmb⟩ (by
            rw [hstp]
            unfold tz_s1
            rw [if_neg k2, if_pos k33, if_pos hmb])
        · obtain ⟨i1, r1, e1, q1⟩ := tz_101 (L := L) (r := r) (tt := tt) hr (dp + 2 * e + 2) i l 5 (by omega) h ht hm
          rw [px_bi_F (fun g => hmb g.2.2), if_pos rfl, r1, Option.bind_some, px_psh_none, b106_255 hr]
          exact bad _ i1 5 e1 q1 (by
            rw [hstp]
            unfold tz_s1
            rw [if_neg k2, if_pos k33, if_neg hmb])
      · obtain ⟨i1, r1, e1, q1⟩ := tz_101 (L := L) (r := r) (tt := tt) hr (dp + 2 * e + 2) i l 1 (by omega) h ht hm
        rw [if_neg k33, r1, Option.bind_some, px_psh_none, b106_233 hr]
        exact bad _ i1 1 e1 q1 (by
          rw [hstp]
          unfold tz_s1
          rw [if_neg k2, if_neg k33, if_neg k3, if_neg h11])
/-- readOne -/
theorem tz_one_n (hr : px_hr r) (hK : tz_tk K U m) (k : Nat) (HS : tz_SP K U PL m D kd k) (dp e : Nat) (l : MI) (o0 : Int) (F : List (Int × Int)) (W : List (Int × Nat)) (C : List Int) (st : List Bool) (q : Nat) (he : 8 - o0 ≤ (e : Int))
    (hb : tz_bt F) (hFo : (F.length : Int) ≤ o0 + 2 ∧ 0 ≤ o0 ∧ W.length ≤ 2 * F.length) (hW : ∀ x, x ∈ W.head? → x.2 < F.length + 1) (hF : ∀ y, y ∈ F.head? → ¬ y.1 = 7) (hD : D.length < 10) (hck : tz_ck C = some st) (hst : (st.length : Int) ≤ 5 + 2 * o0) (hc : tz_mc kd C) : ∀ (f n : Nat) (i : MI) (t : Nat), n + f = 8 → o0 + n ≤ 8 → m + 1 ≤ t + (k + 1) → tz_cm K U PL m kd t (o0 + n) (C ++ tz_gl D) i → t ≤ m → (C ++ tz_gl D).length + q + n ≤ t →
    ∃ i1 : MI, px_X (dp + 2 * e + 2 + 1) 106 (4, [vR 58, vI (n : Int), vI (n : Int), vJ], []) (px_sh L, i, l, r, tt) = some (none, (px_sh L, i1, l, r, tt)) ∧ tz_cq i i1 ∧
      (tz_og K U PL m (t, o0 + n, List.replicate n (7, 0) ++ F, W, 1, C, D, kd) t o0 F W D kd st q i1 ∨ tz_bad K U PL m (t, o0 + n, List.replicate n (7, 0) ++ F, W, 1, C, D, kd) i1)
  | f, n, i, t, hnf, ho8, hk, h, ht, hl => by
    have hm := hK.1
    have hK0 := hK.2.1
    have h33 := tz_33 (L := L) (r := r) (tt := tt) hr (dp + 2 * e + 2) i l h ht hm
    have hgo := tz_one_p (L := L) (r := r) (tt := tt) hr hK k HS dp e i l t o0 n F W C st q hk he
    rw [b106_4 hr, if_neg (by omega), h33, Option.bind_some, px_psh_some, b106_21 hr]
    by_cases h11 : K t = 11
    · have htm : t < m := by
        have := hK0 t ht
        omega
      have hFl : (List.replicate n ((7 : Int), (0 : Int)) ++ F).length = n + F.length := by rw [List.length_append, List.length_replicate]
      have hbn := tz_bt_app 7 F hb n
      have hbd : tz_bd m (t, o0 + n, List.replicate n (7, 0) ++ F, W, 1, C, D, kd) := tz_bd_mk 1 (by omega) ht (by omega) (by rw [hFl]; omega) (by rw [hFl]; omega) (by omega) hD hbn
      have hn4 : ¬ ((t, o0 + n, List.replicate n ((7 : Int), (0 : Int)) ++ F, W, (1 : Int), C, D, kd).2.2.2.2.1 = 4 ∧ K (t, o0 + n, List.replicate n ((7 : Int), (0 : Int)) ++ F, W, (1 : Int), C, D, kd).1 = 0) := fun g => absurd g.1 (show ¬ (1 : Int) = 4 by omega)
      have hstp : tz_stp K U (t, o0 + n, List.replicate n (7, 0) ++ F, W, 1, C, D, kd) = tz_s1 K U t (o0 + n) (List.replicate n (7, 0) ++ F) W C D kd := rfl
      rw [if_pos h11, h.2.2.1.2.2, h.2.2.1.2.1]
      by_cases h8 : o0 + n < 8
      · obtain ⟨f', rfl⟩ : ∃ f', f = f' + 1 := ⟨f - 1, by omega⟩
        obtain ⟨ia, hia⟩ : ∃ ia : MI, ia = px_up (px_up i 58 10 (o0 + ((n + 1 : Nat) : Int))) 58 9 ((t + 1 : Nat) : Int) := ⟨_, rfl⟩
        have qa : tz_cq i ia := by
          rw [hia]
          exact tz_cq_tr (tz_cq_8 (by omega)) (tz_cq_8 (by omega))
        have ca : tz_cm K U PL m kd (t + 1) (o0 + ((n + 1 : Nat) : Int)) (C ++ tz_gl D) ia := tz_cm_8 h (fun k' hk' => by rw [hia, ty_up_row hk', ty_up_row hk']) (by rw [hia, ty_up_j (by decide), ty_up_j (by decide)]) (by rw [hia, ty_up_j (by decide), ty_up_j (by decide)]; exact h.2.2.1.1) (by rw [hia, ty_up_eq]) (by rw [hia, ty_up_j (by decide), ty_up_eq])
        obtain ⟨ib, rb, qb, ob⟩ := tz_one_n hr hK k HS dp e l o0 F W C st q he hb hFo hW hF hD hck hst hc f' (n + 1) ia (t + 1) (by omega) (by omega) (by omega) ca (by omega) (by omega)
        have hto : tz_to K U m (t, o0 + n, List.replicate n (7, 0) ++ F, W, 1, C, D, kd) (.inr (t + 1, o0 + ((n + 1 : Nat) : Int), List.replicate (n + 1) (7, 0) ++ F, W, 1, C, D, kd)) := tz_to_s hbd hn4 (by
          rw [hstp]
          unfold tz_s1
          rw [if_neg (by omega), if_neg (by omega), if_neg (by omega), if_pos h11, if_neg (by omega), show o0 + (n : Int) + 1 = o0 + ((n + 1 : Nat) : Int) by omega, List.replicate_succ]
          rfl) tz_to_rf
        refine ⟨ib, ?_, tz_cq_tr qa qb, ?_⟩
        · rw [if_pos h8, show px_w32 (o0 + n + 1) = o0 + ((n + 1 : Nat) : Int) by rw [ty_w (by omega)]; omega, show px_w32 ((t : Int) + 1) = ((t + 1 : Nat) : Int) by rw [ty_w (by omega)]; omega, show px_w32 ((n : Int) + 1) = ((n + 1 : Nat) : Int) by rw [ty_w (by omega)]; omega, ← hia, rb]
        · rcases ob with ⟨t', C', ⟨a1, a2⟩, a3, a4, a5⟩ | g
          · exact Or.inl ⟨t', C', ⟨by omega, a2⟩, a3, tz_to_tr hto a4, a5⟩
          · exact Or.inr (tz_bad_s hto g)
      · obtain ⟨i1, r1, e1, q1⟩ := tz_101 (L := L) (r := r) (tt := tt) hr (dp + 2 * e + 2) i l 3 (by omega) h ht hm
        rw [if_neg h8, r1, Option.bind_some, px_psh_none, b106_40 hr]
        exact ⟨i1, rfl, q1, Or.inr ⟨3, t, e1, tz_to_e hbd hn4 (by
          rw [hstp]
          unfold tz_s1
          rw [if_neg (by omega), if_neg (by omega), if_neg (by omega), if_pos h11, if_pos (by omega)])⟩⟩
    · rw [if_neg h11]
      exact hgo h11 h ht hl hb ⟨hFo.1, hFo.2.1, ho8, hFo.2.2⟩ hW hF hD hck hst hc
end TYCO
