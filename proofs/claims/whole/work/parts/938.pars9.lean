/-! text: readAsk, readEither. -/
theorem tz_ck_rel {C : List Int} {st : List Bool} {c : Int} (h : tz_ck C = some (false :: false :: st)) (hc : 10014 ≤ c ∧ c ≤ 10019) : tz_ck (c :: C) = some (true :: st) := by
  show (tz_ck C).bind (ty_step c) = _
  rw [h, Option.bind_some]
  unfold ty_step
  rw [if_neg (by omega), if_neg (by omega), if_neg (by omega), if_neg (by omega), if_neg (by omega)]
theorem tz_ck_not {C : List Int} {st : List Bool} (h : tz_ck C = some (true :: st)) : ∀ n : Nat, tz_ck (List.replicate n 10032 ++ C) = some (true :: st)
  | 0 => h
  | n + 1 => by
    rw [List.replicate_succ]
    show (tz_ck (List.replicate n 10032 ++ C)).bind (ty_step 10032) = _
    rw [tz_ck_not h n]
    rfl
theorem tz_ck_ao {C : List Int} {st : List Bool} {c : Int} (h : tz_ck C = some (true :: true :: st)) (hc : c = 10030 ∨ c = 10031) : tz_ck (c :: C) = some (true :: st) := by
  show (tz_ck C).bind (ty_step c) = _
  rw [h, Option.bind_some]
  rcases hc with rfl | rfl <;> rfl
def tz_ge (code x : Int) (C : List Int) : List Int := if x = 0 then C else code :: C
theorem tz_ge_len (code x : Int) (C : List Int) : (tz_ge code x C).length = C.length + tz_n1 x := by
  unfold tz_ge tz_n1
  by_cases h : x = 0
  · rw [if_pos h, if_pos h]; rfl
  · rw [if_neg h, if_neg h]; rfl
theorem tz_ge_mc {kd code x : Int} {C : List Int} (h : 10000 ≤ code ∧ code ≤ 10032) (hC : tz_mc kd C) : tz_mc kd (tz_ge code x C) := by
  unfold tz_ge
  by_cases h0 : x = 0
  · rw [if_pos h0]
    exact hC
  · rw [if_neg h0]
    exact tz_mc_cons ⟨by omega, fun g => by omega⟩ hC
theorem tz_ge_ck {code x : Int} {C : List Int} {st : List Bool} (h : code = 10030 ∨ code = 10031) (hC : tz_ck C = some (true :: ((if x = 0 then [] else [true]) ++ st))) : tz_ck (tz_ge code x C) = some (true :: st) := by
  unfold tz_ge
  by_cases h0 : x = 0
  · rw [if_pos h0] at hC ⊢
    exact hC
  · rw [if_neg h0] at hC ⊢
    exact tz_ck_ao hC h
/-- what waits among asks -/
def tz_pe (e b : Int) : List (Int × Nat) := (if b = 0 then [] else [(31, 1)]) ++ (if e = 0 then [] else [(30, 1)])
theorem tz_pe_len (e b : Int) : (tz_pe e b).length = tz_n1 b + tz_n1 e := by
  unfold tz_pe tz_n1
  rw [List.length_append]
  by_cases h : b = 0 <;> by_cases h2 : e = 0
  · rw [if_pos h, if_pos h2, if_pos h, if_pos h2]; rfl
  · rw [if_pos h, if_neg h2, if_pos h, if_neg h2]; rfl
  · rw [if_neg h, if_pos h2, if_neg h, if_pos h2]; rfl
  · rw [if_neg h, if_neg h2, if_neg h, if_neg h2]; rfl
theorem tz_pe_hd (e b : Int) : ∀ x, x ∈ (tz_pe e b).head? → x.2 = 1 := by
  intro x hx
  unfold tz_pe at hx
  by_cases h1 : b = 0
  · rw [if_pos h1] at hx
    by_cases h2 : e = 0
    · rw [if_pos h2] at hx
      cases hx
    · rw [if_neg h2] at hx
      have e : x = (30, 1) := (Option.some.inj hx).symm
      rw [e]
  · rw [if_neg h1] at hx
    have e : x = (31, 1) := (Option.some.inj hx).symm
    rw [e]
theorem tz_wk_e2 (e b : Int) (C : List Int) : tz_wk 1 2 (tz_pe e b) C = (tz_pe e 0, tz_ge 10031 b C) := by
  have ha : ∀ C', tz_wk 1 2 (if e = 0 then [] else [(30, 1)]) C' = ((if e = 0 then [] else [(30, 1)]), C') := fun C' => by
    by_cases h0 : e = 0
    · rw [if_pos h0]
      rfl
    · rw [if_neg h0]
      show (if 1 = 1 ∧ (2 : Int) ≤ tz_rk 30 then _ else _) = _
      rw [if_neg (fun g => absurd g.2 (by decide))]
  unfold tz_pe tz_ge
  by_cases h0 : b = 0
  · rw [if_pos h0, if_pos h0, if_pos rfl]
    exact ha C
  · rw [if_neg h0, if_neg h0, if_pos rfl]
    show (if 1 = 1 ∧ (2 : Int) ≤ tz_rk 31 then tz_wk 1 2 (if e = 0 then [] else [(30, 1)]) (10031 :: C) else _) = _
    rw [if_pos ⟨rfl, by decide⟩]
    exact ha _
theorem tz_wk_e1 (e b : Int) (C : List Int) : tz_wk 1 1 (tz_pe e b) C = ([], tz_ge 10030 e (tz_ge 10031 b C)) := by
  have ha : ∀ C', tz_wk 1 1 (if e = 0 then [] else [(30, 1)]) C' = ([], tz_ge 10030 e C') := fun C' => by
    unfold tz_ge
    by_cases h0 : e = 0
    · rw [if_pos h0, if_pos h0]
      rfl
    · rw [if_neg h0, if_neg h0]
      show (if 1 = 1 ∧ (1 : Int) ≤ tz_rk 30 then tz_wk 1 1 [] (10030 :: C') else _) = _
      rw [if_pos ⟨rfl, by decide⟩]
      rfl
  unfold tz_pe
  by_cases h0 : b = 0
  · rw [if_pos h0]
    have e : tz_ge 10031 b C = C := if_pos h0
    rw [e]
    exact ha C
  · rw [if_neg h0]
    have e : tz_ge 10031 b C = 10031 :: C := if_neg h0
    rw [e]
    show (if 1 = 1 ∧ (1 : Int) ≤ tz_rk 31 then tz_wk 1 1 (if _ = 0 then [] else [(30, 1)]) (10031 :: C) else _) = _
    rw [if_pos ⟨rfl, by decide⟩]
    exact ha _
section TYCE
variable {L tt : Nat} {r : MR} {K U PL : Nat → Int} {m : Nat} {D : List (Int × List Int)} {kd : Int}
theorem tz_135g (hr : px_hr r) {t : Nat} {o : Int} (d : Nat) (i l : MI) (x code : Int) (C : List Int) (h : tz_cm K U PL m kd t o (C ++ tz_gl D) i) (hl : (C ++ tz_gl D).length + tz_n1 x ≤ 300) :
    ∃ i1 : MI, (if x = 0 then some ((none : Option PV), (px_sh L, i, l, r, tt)) else px_C d 135 [vR 59, vI code] (px_sh L, i, l, r, tt)) = some (none, (px_sh L, i1, l, r, tt)) ∧ tz_cm K U PL m kd t o (tz_ge code x C ++ tz_gl D) i1 ∧ tz_cq i i1 := by
  unfold tz_ge
  by_cases h0 : x = 0
  · rw [if_pos h0, if_pos h0]
    exact ⟨i, rfl, h, tz_cq_rf⟩
  · have hn := (tz_n1_b x).2.2 h0
    rw [if_neg h0, if_neg h0]
    exact tz_135 (L := L) (r := r) (tt := tt) (X := C ++ tz_gl D) hr d i l code h (by omega)
theorem tz_ask_l (hr : px_hr r) {t : Nat} {o : Int} (d : Nat) (l : MI) (x1 x2 : Int) (h1 : x1 ≤ 300) : ∀ (n : Nat) (x3 : Int) (i : MI) (X : List Int), 0 ≤ x3 → x3 + n = x1 → tz_cm K U PL m kd t o X i → X.length + n ≤ 300 → -1000 ≤ o ∧ o ≤ 1000 →
    ∃ i1 : MI, px_X (d + 1) 104 (138, [vR 58, vI x1, vI x2, vI x3], []) (px_sh L, i, l, r, tt) = some (none, (px_sh L, i1, l, r, tt)) ∧ tz_cm K U PL m kd t (o - x1) (List.replicate n 10032 ++ X) i1 ∧ tz_cq i i1
  | 0, x3, i, X, h0, hn, h, hl, ho => by
    have h10 := h.2.2.1.2.2
    have w : px_w32 (o - x1) = o - x1 := ty_w (by omega)
    refine ⟨px_up i 58 10 (o - x1), ?_, ?_, tz_cq_8 (by omega)⟩
    · rw [b104_138 hr, if_pos (by omega), h10, w]
    · exact tz_cm_8 h (fun k hk => ty_up_row hk) (ty_up_j (by decide)) (by rw [ty_up_j (by decide)]; exact h.2.2.1.1) (by rw [ty_up_j (by decide)]; exact h.2.2.1.2.1) ty_up_eq
  | n + 1, x3, i, X, h0, hn, h, hl, ho => by
    have w : px_w32 (x3 + 1) = x3 + 1 := ty_w (by omega)
    obtain ⟨i1, r1, c1, q1⟩ := tz_135 (L := L) (r := r) (tt := tt) hr d i l 10032 h (by omega)
    obtain ⟨i2, r2, c2, q2⟩ := tz_ask_l hr d l x1 x2 h1 n (x3 + 1) i1 (10032 :: X) (by omega) (by omega) c1 (by rw [List.length_cons]; omega) ho
    refine ⟨i2, ?_, ?_, tz_cq_tr q1 q2⟩
    · rw [b104_138 hr, if_neg (by omega), r1, Option.bind_some, px_psh_none, b104_153 hr, w, r2]
    · have e : List.replicate (n + 1) (10032 : Int) ++ X = List.replicate n 10032 ++ (10032 :: X) := by
        rw [List.replicate_succ', List.append_assoc]
        rfl
      rw [e]
      exact c2
theorem tz_ask_le (hr : px_hr r) (d : Nat) (l : MI) (x1 x2 e p : Int) (h1 : x1 ≤ 300) : ∀ (n : Nat) (x3 : Int) (i : MI), 0 ≤ x3 → x3 + n = x1 → tz_er e p i →
    ∃ i1 : MI, px_X (d + 1) 104 (138, [vR 58, vI x1, vI x2, vI x3], []) (px_sh L, i, l, r, tt) = some (none, (px_sh L, i1, l, r, tt)) ∧ tz_er e p i1 ∧ tz_cq i i1
  | 0, x3, i, h0, hn, h => by
    exact ⟨px_up i 58 10 (px_w32 (i 58 10 - x1)), by rw [b104_138 hr, if_pos (by omega)], tz_er_8 h (by decide) (by decide), tz_cq_8 (by omega)⟩
  | n + 1, x3, i, h0, hn, h => by
    have w : px_w32 (x3 + 1) = x3 + 1 := ty_w (by omega)
    obtain ⟨i1, r1, c1, q1⟩ := tz_135e (L := L) (r := r) (tt := tt) hr d i l 10032 e p h
    obtain ⟨i2, r2, c2, q2⟩ := tz_ask_le hr d l x1 x2 e p h1 n (x3 + 1) i1 (by omega) (by omega) c1
    exact ⟨i2, by rw [b104_138 hr, if_neg (by omega), r1, Option.bind_some, px_psh_none, b104_153 hr, w, r2], c2, tz_cq_tr q1 q2⟩
/-- an ask read -/
def tz_ag (K U PL : Nat → Int) (m : Nat) (A : tz_RS) (t : Nat) (W : List (Int × Nat)) (D : List (Int × List Int)) (kd : Int) (st : List Bool) (q : Nat) (i1 : MI) : Prop :=
  ∃ (t' : Nat) (C' : List Int), (t < t' ∧ t' ≤ m) ∧ tz_cm K U PL m kd t' 0 (C' ++ tz_gl D) i1 ∧ tz_to K U m A (.inr (t', 0, [(2, 0)], W, 3, C', D, kd)) ∧ (C' ++ tz_gl D).length + q ≤ t' ∧ tz_ck C' = some (true :: st) ∧ tz_mc kd C'
/-- readSum, called -/
theorem tz_105 (hr : px_hr r) (hK : tz_tk K U m) (hD : D.length < 10) (dp e : Nat) (i l : MI) (t : Nat) (o : Int) (F : List (Int × Int)) (W : List (Int × Nat)) (C : List Int) (st : List Bool) (q : Nat) (he : 8 - o ≤ (e : Int)) (h : tz_cm K U PL m kd t o (C ++ tz_gl D) i) (ht : t ≤ m) (hl : (C ++ tz_gl D).length + q ≤ t) (hfw : tz_fw o F W) (hF : ∀ y, y ∈ F.head? → ¬ y.1 = 7) (hck : tz_ck C = some st) (hst : (st.length : Int) ≤ 3 + 2 * o) (hc : tz_mc kd C) :
    ∃ i1 : MI, px_C (dp + 2 * e + 3 + 1) 105 [vR 58] (px_sh L, i, l, r, tt) = some (none, (px_sh L, i1, l, r, tt)) ∧ tz_cq i i1 ∧ (tz_sgd K U PL m (t, o, F, W, 1, C, D, kd) t o F W D kd st q i1 ∨ tz_bad K U PL m (t, o, F, W, 1, C, D, kd) i1) := by
  obtain ⟨i1, r1, q1, o1⟩ := tz_sum (K := K) (U := U) (PL := PL) (m := m) (D := D) (kd := kd) hK hD (m + 1) L tt r hr dp e i l t o F W C st q 0 0 0 vJ px_nl_J ⟨Or.inl rfl, Or.inl rfl⟩ (by omega) (by omega) he h ht (by rw [tz_pd_len2, (tz_n1_b 0).2.1 rfl]; omega) hfw hF (by rw [hck]; rfl) hst hc
  exact ⟨i1, by rw [e105, b105_0 hr, r1], q1, o1⟩
/-- an ask, behind its nots -/
theorem tz_ask_p (hr : px_hr r) (hK : tz_tk K U m) (hD : D.length < 10) (dp : Nat) (i l : MI) (t n : Nat) (W : List (Int × Nat)) (C : List Int) (st : List Bool) (q : Nat) (x2 : Int) (hn : n ≤ 8) (h32 : ¬ K t = 32) (h : tz_cm K U PL m kd t (n : Int) (C ++ tz_gl D) i) (ht : t ≤ m) (hl : (C ++ tz_gl D).length + q + n ≤ t) (hW : W.length ≤ 2) (hWh : ∀ x, x ∈ W.head? → x.2 = 1) (hck : tz_ck C = some st) (hst : st.length ≤ 2) (hc : tz_mc kd C) :
    ∃ i1 : MI, px_X (dp + 2 * 8 + 3 + 1 + 1) 104 (70, [vR 58, vI (n : Int), vI x2, vJ], []) (px_sh L, i, l, r, tt) = some (none, (px_sh L, i1, l, r, tt)) ∧ tz_cq i i1 ∧
      (tz_ag K U PL m (t, (n : Int), List.replicate n (3, 0) ++ [(2, 0)], W, 0, C, D, kd) t W D kd st q i1 ∨ tz_bad K U PL m (t, (n : Int), List.replicate n (3, 0) ++ [(2, 0)], W, 0, C, D, kd) i1) := by
  have hm := hK.1
  have hFl : (List.replicate n ((3 : Int), (0 : Int)) ++ [(2, 0)]).length = n + 1 := by rw [List.length_append, List.length_replicate]; rfl
  have hb : tz_bt [((2 : Int), (0 : Int))] := Or.inl (Or.inr rfl)
  have hbn := tz_bt_app 3 [(2, 0)] hb n
  have hbd : tz_bd m (t, (n : Int), List.replicate n (3, 0) ++ [(2, 0)], W, 0, C, D, kd) := tz_bd_mk 0 (by omega) ht (by omega) (by rw [hFl]; omega) (by omega) (by omega) hD hbn
  have hn4 : ¬ ((t, (n : Int), List.replicate n ((3 : Int), (0 : Int)) ++ [((2 : Int), (0 : Int))], W, (0 : Int), C, D, kd).2.2.2.2.1 = 4 ∧ K (t, (n : Int), List.replicate n ((3 : Int), (0 : Int)) ++ [((2 : Int), (0 : Int))], W, (0 : Int), C, D, kd).1 = 0) := fun g => absurd g.1 (show ¬ (0 : Int) = 4 by omega)
  have hto : tz_to K U m (t, (n : Int), List.replicate n (3, 0) ++ [(2, 0)], W, 0, C, D, kd) (.inr (t, (n : Int), (4, 0) :: (List.replicate n (3, 0) ++ [(2, 0)]), W, 1, C, D, kd)) := tz_to_s hbd hn4 (by
    show tz_s0 K t (n : Int) (List.replicate n (3, 0) ++ [(2, 0)]) W C D kd = _
    unfold tz_s0
    rw [if_neg h32]) tz_to_rf
  have hfw : ∀ a b : Int, tz_fw (n : Int) ((a, b) :: (List.replicate n (3, 0) ++ [(2, 0)])) W := fun a b => ⟨Or.inr hbn, ⟨by rw [List.length_cons, hFl]; omega, by omega, by omega, by rw [List.length_cons, hFl]; omega⟩, fun x hx => by
    rw [hWh x hx, List.length_cons, hFl]
    omega⟩
  obtain ⟨ia, ra, qa, oa⟩ := tz_105 (L := L) (r := r) (tt := tt) hr hK hD dp 8 i l t (n : Int) ((4, 0) :: (List.replicate n (3, 0) ++ [(2, 0)])) W C st (q + n) (by omega) h ht (by omega) (hfw 4 0) (fun y hy => by
    have e0 : y = (4, 0) := (Option.some.inj hy).symm
    rw [e0]
    show ¬ (4 : Int) = 7
    omega) hck (by omega) hc
  rw [b104_70 hr, ra, Option.bind_some, px_psh_none, b104_74 hr]
  rcases oa with ⟨t', W2, C2, C1, ⟨t1, t2⟩, c1, to1, ⟨wk1, wl1, cl1⟩, nop, len1, ck1, mc1⟩ | ⟨f, t', er1, to1⟩
  · have h33 := tz_33 (L := L) (r := r) (tt := tt) hr (dp + 2 * 8 + 3 + 1) ia l c1 t2 hm
    have hk0 := hK.2.1 t' t2
    have hlc := len1
    rw [List.length_append] at hlc
    have hbd2 : tz_bd m (t', (n : Int), (4, 0) :: (List.replicate n (3, 0) ++ [(2, 0)]), W2, 2, C2, D, kd) := tz_bd_mk 2 (by omega) t2 (by omega) (hfw 4 0).2.1.1 (by rw [List.length_cons, hFl]; omega) (by rw [List.length_append]; omega) hD (Or.inr hbn)
    have hn42 : ¬ ((t', (n : Int), ((4 : Int), (0 : Int)) :: (List.replicate n ((3 : Int), (0 : Int)) ++ [((2 : Int), (0 : Int))]), W2, (2 : Int), C2, D, kd).2.2.2.2.1 = 4 ∧ K (t', (n : Int), ((4 : Int), (0 : Int)) :: (List.replicate n ((3 : Int), (0 : Int)) ++ [((2 : Int), (0 : Int))]), W2, (2 : Int), C2, D, kd).1 = 0) := fun g => absurd g.1 (show ¬ (2 : Int) = 4 by omega)
    have hstp2 : tz_stp K U (t', (n : Int), (4, 0) :: (List.replicate n (3, 0) ++ [(2, 0)]), W2, 2, C2, D, kd) = tz_s2 K t' (n : Int) ((4, 0) :: (List.replicate n (3, 0) ++ [(2, 0)])) W2 C2 D kd := rfl
    have ehd : (((4 : Int), (0 : Int)) :: (List.replicate n ((3 : Int), (0 : Int)) ++ [((2 : Int), (0 : Int))])).headD (0, 0) = (4, 0) := rfl
    have etl : (((4 : Int), (0 : Int)) :: (List.replicate n ((3 : Int), (0 : Int)) ++ [((2 : Int), (0 : Int))])).tail = List.replicate n (3, 0) ++ [(2, 0)] := rfl
    rw [h33, Option.bind_some, px_psh_some, b104_85 hr, q30 hr, Option.bind_some, px_psh_some, b104_94 hr]
    by_cases k14 : 14 ≤ K t' ∧ K t' ≤ 19
    · rw [px_bi_T k14, if_neg (by omega), b104_102 hr, if_pos c1.2.2.1.1, c1.2.2.1.2.1]
      rw [show px_w32 ((t' : Int) + 1) = ((t' + 1 : Nat) : Int) by rw [ty_w (by omega)]; omega]
      obtain ⟨ib, hib⟩ : ∃ ib : MI, ib = px_up ia 58 9 ((t' + 1 : Nat) : Int) := ⟨_, rfl⟩
      rw [← hib]
      have qb : tz_cq ia ib := by
        rw [hib]
        exact tz_cq_8 (by omega)
      have cb : tz_cm K U PL m kd (t' + 1) (n : Int) (C1 ++ tz_gl D) ib := tz_cm_8 c1 (fun k' hk' => by rw [hib, ty_up_row hk']) (by rw [hib, ty_up_j (by decide)]) (by rw [hib, ty_up_j (by decide)]; exact c1.2.2.1.1) (by rw [hib, ty_up_eq]) (by rw [hib, ty_up_j (by decide)]; exact c1.2.2.1.2.2)
      obtain ⟨ic, rc, qc, oc⟩ := tz_105 (L := L) (r := r) (tt := tt) hr hK hD dp 8 ib l (t' + 1) (n : Int) ((5, K t') :: (List.replicate n (3, 0) ++ [(2, 0)])) W C1 (false :: st) (q + n + 1) (by omega) cb (by omega) (by omega) (hfw 5 (K t')) (fun y hy => by
        have e0 : y = (5, K t') := (Option.some.inj hy).symm
        rw [e0]
        show ¬ (5 : Int) = 7
        omega) ck1 (by rw [List.length_cons]; omega) mc1
      have hto2 : tz_to K U m (t', (n : Int), (4, 0) :: (List.replicate n (3, 0) ++ [(2, 0)]), W2, 2, C2, D, kd) (.inr (t' + 1, (n : Int), (5, K t') :: (List.replicate n (3, 0) ++ [(2, 0)]), W, 1, C1, D, kd)) := tz_to_s hbd2 hn42 (by
        rw [hstp2]
        unfold tz_s2
        rw [ehd, etl, if_neg nop, if_neg (fun g => absurd g.1 (show ¬ (4 : Int) = 6 by omega)), if_pos ⟨rfl, k14⟩, wk1 3 (by omega)]) tz_to_rf
      rw [rc, Option.bind_some, px_psh_none, b104_124 hr]
      rcases oc with ⟨t3, W3, C3, C4, ⟨t31, t32⟩, c4, to4, ⟨wk4, wl4, cl4⟩, nop4, len4, ck4, mc4⟩ | ⟨f, t3, er4, to4⟩
      · rw [show px_w32 (10000 + K t') = 10000 + K t' from ty_w (by omega)]
        obtain ⟨id, rd, cd, qd⟩ := tz_135 (L := L) (r := r) (tt := tt) hr (dp + 2 * 8 + 3 + 1) ic l (10000 + K t') c4 (by omega)
        obtain ⟨ie, re, ce, qe⟩ := tz_ask_l (L := L) (r := r) (tt := tt) hr (dp + 2 * 8 + 3 + 1) l (n : Int) (K t') (by omega) n 0 id ((10000 + K t') :: (C4 ++ tz_gl D)) (by omega) (by omega) cd (by rw [List.length_cons]; omega) (by omega)
        rw [show (n : Int) - (n : Int) = 0 by omega] at ce
        have hl4 := len4
        rw [List.length_append] at hl4
        have hbd3 : tz_bd m (t3, (n : Int), (5, K t') :: (List.replicate n (3, 0) ++ [(2, 0)]), W3, 2, C3, D, kd) := tz_bd_mk 2 (by omega) t32 (by omega) (hfw 5 (K t')).2.1.1 (by rw [List.length_cons, hFl]; omega) (by rw [List.length_append]; omega) hD (Or.inr hbn)
        have hn43 : ¬ ((t3, (n : Int), ((5 : Int), K t') :: (List.replicate n ((3 : Int), (0 : Int)) ++ [((2 : Int), (0 : Int))]), W3, (2 : Int), C3, D, kd).2.2.2.2.1 = 4 ∧ K (t3, (n : Int), ((5 : Int), K t') :: (List.replicate n ((3 : Int), (0 : Int)) ++ [((2 : Int), (0 : Int))]), W3, (2 : Int), C3, D, kd).1 = 0) := fun g => absurd g.1 (show ¬ (2 : Int) = 4 by omega)
        have hstp3 : tz_stp K U (t3, (n : Int), (5, K t') :: (List.replicate n (3, 0) ++ [(2, 0)]), W3, 2, C3, D, kd) = tz_s2 K t3 (n : Int) ((5, K t') :: (List.replicate n (3, 0) ++ [(2, 0)])) W3 C3 D kd := rfl
        have ehd5 : (((5 : Int), K t') :: (List.replicate n ((3 : Int), (0 : Int)) ++ [((2 : Int), (0 : Int))])).headD (0, 0) = (5, K t') := rfl
        have etl5 : (((5 : Int), K t') :: (List.replicate n ((3 : Int), (0 : Int)) ++ [((2 : Int), (0 : Int))])).tail = List.replicate n (3, 0) ++ [(2, 0)] := rfl
        have hov := tz_ov_n 3 10032 [((2 : Int), (0 : Int))] (fun y hy => by
          have e0 : y = (2, 0) := (Option.some.inj hy).symm
          rw [e0]
          show ¬ (2 : Int) = 3
          omega) n (n : Int) ((10000 + K t') :: C4)
        rw [show (n : Int) - (n : Int) = 0 by omega] at hov
        have hto3 : tz_to K U m (t3, (n : Int), (5, K t') :: (List.replicate n (3, 0) ++ [(2, 0)]), W3, 2, C3, D, kd) (.inr (t3, 0, [(2, 0)], W, 3, List.replicate n 10032 ++ ((10000 + K t') :: C4), D, kd)) := tz_to_s hbd3 hn43 (by
          rw [hstp3]
          unfold tz_s2
          rw [ehd5, etl5, if_neg nop4, if_neg (fun g => absurd g.1 (show ¬ (5 : Int) = 6 by omega)), if_neg (fun g => absurd g.1 (show ¬ (5 : Int) = 4 by omega)), if_pos rfl, wk4 3 (by omega), hov]) tz_to_rf
        refine ⟨ie, ?_, tz_cq_tr qa (tz_cq_tr qb (tz_cq_tr qc (tz_cq_tr qd qe))), Or.inl ⟨t3, List.replicate n 10032 ++ ((10000 + K t') :: C4), ⟨by omega, t32⟩, ?_, tz_to_tr hto (tz_to_tr to1 (tz_to_tr hto2 (tz_to_tr to4 hto3))), ?_, tz_ck_not (tz_ck_rel ck4 (by omega)) n, fun c hcc => ?_⟩⟩
        · rw [rd, Option.bind_some, px_psh_none, b104_136 hr, re]
        · rw [List.append_assoc]
          exact ce
        · rw [List.append_assoc, List.length_append, List.length_replicate, List.cons_append, List.length_cons]
          omega
        · rcases List.mem_append.mp hcc with g | g
          · rw [(List.mem_replicate.mp g).2]
            exact ⟨by omega, fun g => by omega⟩
          · exact tz_mc_cons (kd := kd) ⟨by omega, fun g => by omega⟩ mc4 c g
      · obtain ⟨id, rd, ed, qd⟩ := tz_135e (L := L) (r := r) (tt := tt) hr (dp + 2 * 8 + 3 + 1) ic l (px_w32 (10000 + K t')) f (PL t3) er4
        obtain ⟨ie, re, ee, qe⟩ := tz_ask_le (L := L) (r := r) (tt := tt) hr (dp + 2 * 8 + 3 + 1) l (n : Int) (K t') f (PL t3) (by omega) n 0 id (by omega) (by omega) ed
        refine ⟨ie, ?_, tz_cq_tr qa (tz_cq_tr qb (tz_cq_tr qc (tz_cq_tr qd qe))), Or.inr ⟨f, t3, ee, tz_to_tr hto (tz_to_tr to1 (tz_to_tr hto2 to4))⟩⟩
        rw [rd, Option.bind_some, px_psh_none, b104_136 hr, re]
    · obtain ⟨ib, rb, eb, qb⟩ := tz_101 (L := L) (r := r) (tt := tt) hr (dp + 2 * 8 + 3 + 1) ia l 1 (by omega) c1 t2 hm
      rw [px_bi_F k14, if_pos rfl, rb, Option.bind_some, px_psh_none, b104_102 hr, if_neg (fun g => eb.2.2 (eb.1.symm.trans g))]
      refine ⟨ib, rfl, tz_cq_tr qa qb, Or.inr ⟨1, t', eb, tz_to_tr hto (tz_to_tr to1 (tz_to_e hbd2 hn42 ?_))⟩⟩
      rw [hstp2]
      unfold tz_s2
      rw [ehd, if_neg nop, if_neg (fun g => absurd g.1 (show ¬ (4 : Int) = 6 by omega)), if_neg (fun g => k14 g.2), if_neg (show ¬ (4 : Int) = 5 by omega), if_neg (fun g => absurd g.1 (show ¬ (4 : Int) = 1 by omega))]
  · obtain ⟨v, hv⟩ := tz_33k (L := L) (r := r) (tt := tt) hr (dp + 2 * 8 + 3 + 1) ia l (ia 58 9)
    rw [hv, Option.bind_some, px_psh_some, b104_85 hr, q30 hr, Option.bind_some, px_psh_some, b104_94 hr]
    have e102 : px_X (dp + 2 * 8 + 3 + 1 + 1) 104 (102, [vR 58, vI (n : Int), vI v, vJ], []) (px_sh L, ia, l, r, tt) = some (none, (px_sh L, ia, l, r, tt)) := by
      rw [b104_102 hr, if_neg (fun g => er1.2.2 (er1.1.symm.trans g))]
    refine ⟨ia, ?_, qa, Or.inr ⟨f, t', er1, tz_to_tr hto to1⟩⟩
    split
    · rw [tz_101e hr _ _ _ _ f (PL t') er1, Option.bind_some, px_psh_none, e102]
    · exact e102
/-- readAsk -/
theorem tz_ask_n (hr : px_hr r) (hK : tz_tk K U m) (hD : D.length < 10) (dp : Nat) (l : MI) (W : List (Int × Nat)) (C : List Int) (st : List Bool) (q : Nat) (hW : W.length ≤ 2) (hWh : ∀ x, x ∈ W.head? → x.2 = 1) (hck : tz_ck C = some st) (hst : st.length ≤ 2) (hc : tz_mc kd C) : ∀ (f n : Nat) (i : MI) (t : Nat), n + f = 8 → tz_cm K U PL m kd t (n : Int) (C ++ tz_gl D) i → t ≤ m → (C ++ tz_gl D).length + q + n ≤ t →
    ∃ i1 : MI, px_X (dp + 2 * 8 + 3 + 1 + 1) 104 (4, [vR 58, vI (n : Int), vI (n : Int), vJ], []) (px_sh L, i, l, r, tt) = some (none, (px_sh L, i1, l, r, tt)) ∧ tz_cq i i1 ∧
      (tz_ag K U PL m (t, (n : Int), List.replicate n (3, 0) ++ [(2, 0)], W, 0, C, D, kd) t W D kd st q i1 ∨ tz_bad K U PL m (t, (n : Int), List.replicate n (3, 0) ++ [(2, 0)], W, 0, C, D, kd) i1)
  | f, n, i, t, hnf, h, ht, hl => by
    have hm := hK.1
    have h33 := tz_33 (L := L) (r := r) (tt := tt) hr (dp + 2 * 8 + 3 + 1) i l h ht hm
    rw [b104_4 hr, if_neg (by omega), h33, Option.bind_some, px_psh_some, b104_21 hr]
    by_cases h32 : K t = 32
    · have htm : t < m := by
        have := hK.2.1 t ht
        omega
      have hFl : (List.replicate n ((3 : Int), (0 : Int)) ++ [(2, 0)]).length = n + 1 := by rw [List.length_append, List.length_replicate]; rfl
      have hb : tz_bt [((2 : Int), (0 : Int))] := Or.inl (Or.inr rfl)
      have hbn := tz_bt_app 3 [(2, 0)] hb n
      have hbd : tz_bd m (t, (n : Int), List.replicate n (3, 0) ++ [(2, 0)], W, 0, C, D, kd) := tz_bd_mk 0 (by omega) ht (by omega) (by rw [hFl]; omega) (by omega) (by omega) hD hbn
      have hn4 : ¬ ((t, (n : Int), List.replicate n ((3 : Int), (0 : Int)) ++ [((2 : Int), (0 : Int))], W, (0 : Int), C, D, kd).2.2.2.2.1 = 4 ∧ K (t, (n : Int), List.replicate n ((3 : Int), (0 : Int)) ++ [((2 : Int), (0 : Int))], W, (0 : Int), C, D, kd).1 = 0) := fun g => absurd g.1 (show ¬ (0 : Int) = 4 by omega)
      have hstp : tz_stp K U (t, (n : Int), List.replicate n (3, 0) ++ [(2, 0)], W, 0, C, D, kd) = tz_s0 K t (n : Int) (List.replicate n (3, 0) ++ [(2, 0)]) W C D kd := rfl
      rw [if_pos h32, h.2.2.1.2.2, h.2.2.1.2.1]
      by_cases h8 : (n : Int) < 8
      · obtain ⟨f', rfl⟩ : ∃ f', f = f' + 1 := ⟨f - 1, by omega⟩
        obtain ⟨ia, hia⟩ : ∃ ia : MI, ia = px_up (px_up i 58 10 ((n + 1 : Nat) : Int)) 58 9 ((t + 1 : Nat) : Int) := ⟨_, rfl⟩
        have qa : tz_cq i ia := by
          rw [hia]
          exact tz_cq_tr (tz_cq_8 (by omega)) (tz_cq_8 (by omega))
        have ca : tz_cm K U PL m kd (t + 1) ((n + 1 : Nat) : Int) (C ++ tz_gl D) ia := tz_cm_8 h (fun k' hk' => by rw [hia, ty_up_row hk', ty_up_row hk']) (by rw [hia, ty_up_j (by decide), ty_up_j (by decide)]) (by rw [hia, ty_up_j (by decide), ty_up_j (by decide)]; exact h.2.2.1.1) (by rw [hia, ty_up_eq]) (by rw [hia, ty_up_j (by decide), ty_up_eq])
        obtain ⟨ib, rb, qb, ob⟩ := tz_ask_n hr hK hD dp l W C st q hW hWh hck hst hc f' (n + 1) ia (t + 1) (by omega) ca (by omega) (by omega)
        have hto : tz_to K U m (t, (n : Int), List.replicate n (3, 0) ++ [(2, 0)], W, 0, C, D, kd) (.inr (t + 1, ((n + 1 : Nat) : Int), List.replicate (n + 1) (3, 0) ++ [(2, 0)], W, 0, C, D, kd)) := tz_to_s hbd hn4 (by
          rw [hstp]
          unfold tz_s0
          rw [if_pos h32, if_neg (by omega), show (n : Int) + 1 = ((n + 1 : Nat) : Int) by omega, List.replicate_succ]
          rfl) tz_to_rf
        refine ⟨ib, ?_, tz_cq_tr qa qb, ?_⟩
        · rw [if_pos h8, show px_w32 ((n : Int) + 1) = ((n + 1 : Nat) : Int) by rw [ty_w (by omega)]; omega, show px_w32 ((t : Int) + 1) = ((t + 1 : Nat) : Int) by rw [ty_w (by omega)]; omega, ← hia, rb]
        · rcases ob with ⟨t', C', ⟨a1, a2⟩, a3, a4, a5⟩ | g
          · exact Or.inl ⟨t', C', ⟨by omega, a2⟩, a3, tz_to_tr hto a4, a5⟩
          · exact Or.inr (tz_bad_s hto g)
      · obtain ⟨i1, r1, e1, q1⟩ := tz_101 (L := L) (r := r) (tt := tt) hr (dp + 2 * 8 + 3 + 1) i l 3 (by omega) h ht hm
        rw [if_neg h8, r1, Option.bind_some, px_psh_none, b104_40 hr]
        exact ⟨i1, rfl, q1, Or.inr ⟨3, t, e1, tz_to_e hbd hn4 (by
          rw [hstp]
          unfold tz_s0
          rw [if_pos h32, if_pos (by omega)])⟩⟩
    · rw [if_neg h32]
      exact tz_ask_p (L := L) (r := r) (tt := tt) hr hK hD dp i l t n W C st q (n : Int) (by omega) h32 h ht hl hW hWh hck hst hc
theorem tz_ask (hr : px_hr r) (hK : tz_tk K U m) (hD : D.length < 10) (dp : Nat) (i l : MI) (t : Nat) (W : List (Int × Nat)) (C : List Int) (st : List Bool) (q : Nat) (hW : W.length ≤ 2) (hWh : ∀ x, x ∈ W.head? → x.2 = 1) (hck : tz_ck C = some st) (hst : st.length ≤ 2) (hc : tz_mc kd C) (h : tz_cm K U PL m kd t 0 (C ++ tz_gl D) i) (ht : t ≤ m) (hl : (C ++ tz_gl D).length + q ≤ t) :
    ∃ i1 : MI, px_C (dp + 21) 104 [vR 58] (px_sh L, i, l, r, tt) = some (none, (px_sh L, i1, l, r, tt)) ∧ tz_cq i i1 ∧
      (tz_ag K U PL m (t, 0, [(2, 0)], W, 0, C, D, kd) t W D kd st q i1 ∨ tz_bad K U PL m (t, 0, [(2, 0)], W, 0, C, D, kd) i1) := by
  have h2 := tz_ask_n (L := L) (r := r) (tt := tt) hr hK hD dp l W C st q hW hWh hck hst hc 8 0 i t (by omega) h ht (by omega)
  rw [List.replicate_zero, List.nil_append, show ((0 : Nat) : Int) = 0 from rfl] at h2
  obtain ⟨i1, r1, q1, o1⟩ := h2
  refine ⟨i1, ?_, q1, o1⟩
  rw [e104, b104_0 hr]
  exact r1
end TYCE
