/-! text: read, and the reference's reading, from their starts. -/
theorem tz_fi_b (T : Int → Int) (q len : Nat) : ∀ (tb : List (Nat × Nat)) (k : Int), tz_fi T q len k tb = 1 ∨ (k ≤ tz_fi T q len k tb ∧ tz_fi T q len k tb < k + tb.length)
  | [], k => Or.inl rfl
  | (b, e) :: r, k => by
    unfold tz_fi
    rw [List.length_cons]
    by_cases h : e - b = len ∧ tz_mw T q b len 0 = true
    · rw [if_pos h]
      exact Or.inr ⟨Int.le_refl _, by omega⟩
    · rw [if_neg h]
      rcases tz_fi_b T q len r (k + 1) with g | g
      · exact Or.inl g
      · exact Or.inr ⟨by omega, by omega⟩
theorem tz_sn_b (x : Int) (two : Bool) : 1 ≤ tz_sn x two ∧ tz_sn x two ≤ 19 ∧ ¬ tz_sn x two = 2 := by
  unfold tz_sn
  cases two <;> (repeat' split) <;> first | decide | omega
theorem tz_kd_b (T : Int → Int) (N q : Nat) : (1 ≤ tz_kd T N q ∧ tz_kd T N q ≤ 47) ∧ (tz_kd T N q = 2 → tz_L (T q) = false ∧ tz_G (T q) = true) := by
  unfold tz_kd
  by_cases hL : tz_L (T q) = true
  · rw [if_pos hL]
    have h := tz_fi_b T q (tz_be T N q - q) (tz_tb 124 0 0) 24
    have hl : (tz_tb 124 0 0).length = 24 := by rw [tz_tbl_ok]; rfl
    rw [hl] at h
    constructor
    · omega
    · intro g
      omega
  · rw [if_neg hL]
    by_cases hG : tz_G (T q) = true
    · rw [if_pos hG]
      exact ⟨by omega, fun _ => ⟨Bool.eq_false_iff.mpr hL, hG⟩⟩
    · rw [if_neg hG]
      have h := tz_sn_b (T q) (decide (tz_be T N q = q + 2))
      exact ⟨by omega, fun g => absurd g h.2.2⟩
theorem tz_tk_ok {T : Int → Int} {N m : Nat} (hN : N ≤ 300) (hm : m ≤ N) (hps : tz_ps T N m = N) (hlt : ∀ x, x < m → tz_ps T N x < N) : tz_tk (tz_tK T N) (tz_tU T N) m := by
  refine ⟨by omega, fun t ht => ?_, fun t ht => ?_, fun t ht hk => ?_⟩
  · unfold tz_tK
    by_cases e : t = m
    · rw [e, hps, if_neg (by omega)]
      exact ⟨fun _ => rfl, fun _ => rfl⟩
    · have h1 := hlt t (by omega)
      have h2 := tz_kd_b T N (tz_ps T N t)
      rw [if_pos h1]
      constructor
      · intro g
        omega
      · intro g
        exact absurd g e
  · unfold tz_tK
    have h2 := tz_kd_b T N (tz_ps T N t)
    split <;> omega
  · have h1 := hlt t ht
    unfold tz_tK at hk
    rw [if_pos h1] at hk
    obtain ⟨hL, hG⟩ := (tz_kd_b T N (tz_ps T N t)).2 hk
    have hre : tz_be T N (tz_ps T N t) = tz_re tz_G T (N - tz_ps T N t) (tz_ps T N t) := by
      unfold tz_be
      rw [hL, if_neg (by decide), if_pos hG]
    have hb := tz_be_b T h1
    exact (tz_nr_n T (tz_be T N (tz_ps T N t) - tz_ps T N t) (tz_ps T N t) 0 0 (fun x x0 x1 => tz_re_in tz_G T (N - tz_ps T N t) (tz_ps T N t) x x0 (by rw [← hre]; omega)) ⟨by omega, by omega, Or.inl ⟨by omega, rfl⟩⟩).1
theorem tz_stp_e {K U : Nat → Int} {A : tz_RS} {e : Int} (h : tz_stp K U A = .inl e) : 1 ≤ e := by
  obtain ⟨t, o, F, W, st, C, D, kd⟩ := A
  unfold tz_stp tz_s0 tz_s1 tz_s2 tz_s3 tz_s4 at h
  dsimp only at h
  (repeat' split at h) <;> first | (cases h; done) | (cases h; decide)
theorem tz_to_pos {K U : Nat → Int} {m : Nat} {A : tz_RS} {e : Int} {t : Nat} (h : tz_to K U m A (.inl (e, t))) : 1 ≤ e := by
  obtain ⟨n, hn⟩ := h
  induction n generalizing A with
  | zero => cases hn
  | succ n ih =>
    obtain ⟨-, -, h⟩ := hn
    rcases h with ⟨e', h1, h2⟩ | ⟨A', h1, h2⟩
    · cases h2
      exact tz_stp_e h1
    · exact ih h2
theorem tz_NX_ok {T : Int → Int} {N m : Nat} (hN : N ≤ 300) (hT : ∀ x : Nat, x < N → 0 ≤ T (x : Int) ∧ T (x : Int) ≤ 255) (hm : m ≤ N) (hps : tz_ps T N m = N) (hlt : ∀ x, x < m → tz_ps T N x < N) : tz_NX (tz_tK T N) (tz_tU T N) (tz_tP T N) (tz_tB T N) T (N : Int) m := by
  intro L tt r hr d j l t ht hp
  obtain ⟨p1, p2, p3, p4, p5, p6⟩ := hp
  have h1 := hlt t ht
  have hb := tz_be_b T h1
  have e15 : j 123 15 = ((tz_be T N (tz_ps T N t) : Nat) : Int) := by
    rw [p4]
    unfold tz_tB
    rw [if_pos h1]
  obtain ⟨j1, r1, q1, g16, g⟩ := tz_158 (L := L) (r := r) (tt := tt) (T := T) (N := N) hr d j l (tz_be T N (tz_ps T N t)) hb.2 ⟨p2, ⟨hN, hT⟩, p3⟩ e15
  have eps : tz_sk T (N - tz_be T N (tz_ps T N t)) (tz_be T N (tz_ps T N t)) = tz_ps T N (t + 1) := rfl
  rw [eps] at g16 g
  have h126 : j1 126 = j 126 := q1.1 126 (by decide) (by decide)
  refine ⟨j1, r1, ⟨by omega, by rw [q1.2 14 (by decide)]; exact p2, by rw [h126]; exact p3, ?_, g16, ?_⟩, q1⟩
  · unfold tz_tB
    rcases g with ⟨g1, g2, g3⟩ | ⟨g1, g2, g3⟩
    · rw [if_neg (by omega), g2]
    · rw [if_pos g1, g2]
  · unfold tz_tK tz_tU
    rcases g with ⟨g1, g2, g3⟩ | ⟨g1, g2, g3⟩
    · rw [if_neg (by omega), g3]
      exact Or.inl ⟨rfl, rfl⟩
    · rw [if_pos g1]
      exact g3
section TYW1
variable {L tt : Nat} {r : MR}
/-- read -/
theorem tz_92 (hr : px_hr r) {T : Int → Int} {N : Nat} (dp : Nat) (i l : MI) (h : tz_tp T N i) (hal : ∀ x : Int, 0 ≤ x → x < 6 → i 1 x = tz_alw x) :
    ∃ (m : Nat) (i1 : MI), px_C (dp + 23 + 1) 92 [vR 58] (px_sh L, i, l, r, tt) = some (none, (px_sh L, px_up i1 58 1 0, l, r, tt)) ∧ (m ≤ N ∧ tz_ps T N m = N ∧ ∀ x, x < m → tz_ps T N x < N) ∧ ((∀ k : Nat, k < 58 ∨ k = 64 ∨ 67 < k → i1 k = i k) ∧ i1 58 2 = 1) ∧
      ((tz_rg (tz_tK T N) (tz_tU T N) (tz_tP T N) m (0, 0, [], [], 4, [], [], 0) i1 ∧ i1 58 4 = -1) ∨ tz_bad (tz_tK T N) (tz_tU T N) (tz_tP T N) m (0, 0, [], [], 4, [], [], 0) i1) := by
  have h300 := h.2.1
  obtain ⟨ia, m, ra, ca, ⟨m1, m2⟩, m3, m4, m5⟩ := tz_93 (L := L) (r := r) (tt := tt) hr (dp + 19) i l h
  have hlt : ∀ x, x < m → tz_ps T N x < N := fun x hx => (m3 x hx).1
  have hK := tz_tk_ok h300 m1 m2 hlt
  obtain ⟨ib, hib⟩ : ∃ ib : MI, ib = px_up (px_up (px_up (px_up (px_up (px_up ia 58 2 1) 58 3 0) 58 4 (-1)) 58 9 0) 58 10 0) 58 12 0 := ⟨_, rfl⟩
  obtain ⟨ic, hic⟩ : ∃ ic : MI, ic = px_up (px_up ib 59 0 0) 59 1 0 := ⟨_, rfl⟩
  have rb : ∀ k : Nat, k ≠ 58 → ib k = ia k := fun k hk => by rw [hib, ty_up_row hk, ty_up_row hk, ty_up_row hk, ty_up_row hk, ty_up_row hk, ty_up_row hk]
  have rc : ∀ k : Nat, k ≠ 59 → ic k = ib k := fun k hk => by rw [hic, ty_up_row hk, ty_up_row hk]
  have c58 : ic 58 = ib 58 := rc 58 (by decide)
  have f2 : ic 58 2 = 1 := by rw [c58, hib, ty_up_j (by decide), ty_up_j (by decide), ty_up_j (by decide), ty_up_j (by decide), ty_up_j (by decide), ty_up_eq]
  have f3 : ic 58 3 = 0 := by rw [c58, hib, ty_up_j (by decide), ty_up_j (by decide), ty_up_j (by decide), ty_up_j (by decide), ty_up_eq]
  have f4 : ic 58 4 = -1 := by rw [c58, hib, ty_up_j (by decide), ty_up_j (by decide), ty_up_j (by decide), ty_up_eq]
  have f9 : ic 58 9 = 0 := by rw [c58, hib, ty_up_j (by decide), ty_up_j (by decide), ty_up_eq]
  have f10 : ic 58 10 = 0 := by rw [c58, hib, ty_up_j (by decide), ty_up_eq]
  have f12 : ic 58 12 = 0 := by rw [c58, hib, ty_up_eq]
  have hcn : tz_cn (tz_tK T N) (tz_tU T N) (tz_tP T N) m 0 [] ic := by
    refine ⟨⟨fun x hx => ?_, fun x hx => ?_⟩, ⟨f3, f9, f10⟩, ⟨by rw [f12]; omega, by rw [f12]; omega, fun v v0 v1 => by rw [f12]; exact Nat.zero_testBit _⟩, ⟨by rw [hic, ty_up_j (by decide), ty_up_eq]; rfl, by rw [hic, ty_up_eq]; rfl⟩, trivial, trivial, fun x x0 x1 => ?_⟩
    · rw [rc 65 (by decide), rc 66 (by decide), rb 65 (by decide), rb 66 (by decide)]
      unfold tz_tK tz_tP
      by_cases e : x = m
      · rw [e, m4, m5, m2, if_neg (by omega)]
        exact ⟨rfl, rfl⟩
      · obtain ⟨g1, g2, g3, -⟩ := m3 x (by omega)
        rw [g2, g3, if_pos g1]
        exact ⟨rfl, rfl⟩
    · rw [rc 67 (by decide), rb 67 (by decide)]
      exact (m3 x hx).2.2.2
    · rw [rc 1 (by decide), rb 1 (by decide), ca 1 (by decide)]
      exact hal x x0 x1
  obtain ⟨i1, r1, q1, o1⟩ := tz_92_n (L := L) (r := r) (tt := tt) (PL := tz_tP T N) hr hK dp l (m + 1) ic 0 0 0 [] (by omega) ⟨Int.le_refl _, Int.le_refl _⟩ hcn (Nat.zero_le _) (Nat.le_refl _) trivial (Nat.zero_le _)
  refine ⟨m, i1, ?_, ⟨m1, m2, hlt⟩, ⟨fun k hk => ?_, ?_⟩, ?_⟩
  · have ra' : px_C (dp + 23) 93 [vR 58] (px_sh L, i, l, r, tt) = some (none, (px_sh L, ia, l, r, tt)) := ra
    rw [e92, b92_0 hr, ra', Option.bind_some, px_psh_none, b92_4 hr, ← hib, e134, b134_0 hr, ← hic, Option.bind_some, px_psh_none, b92_41 hr, r1]
  · have hca : ia k = i k := ca k (fun g => by
      simp only [List.mem_cons, List.not_mem_nil, or_false] at g
      omega)
    rw [q1.1 k (by omega), rc k (by omega), rb k (by omega), hca]
  · rw [q1.2.1 2 (by decide) (by decide) (by decide) (by decide) (by decide) (by decide), f2]
  · rcases o1 with g | g
    · refine Or.inl ⟨g, ?_⟩
      obtain ⟨D', kd, g1, -⟩ := g
      rw [(q1.2.2 g1.2.1.1).2, f4]
    · exact Or.inr g
end TYW1
