/-! text: the reference's loop is a run of the machine. -/
theorem tz_k0 {k u s v : Int} (h : tz_tkr k u s v) : s = 0 ↔ k = 0 := by
  unfold tz_tkr at h
  omega
section TYPV
variable {L tt : Nat} {r : MR} {K U PL BH : Nat → Int} {T : Int → Int} {N : Int} {m : Nat}
theorem tz_loop (hr : px_hr r) (hX : tz_NX K U PL BH T N m) (hK : ∀ t, t ≤ m → (K t = 0 ↔ t = m)) (d : Nat) (j l : MI) (A : tz_RS) (hb : tz_bd m A) (h4 : ¬ (A.2.2.2.2.1 = 4 ∧ K A.1 = 0)) (h : tz_RC K U PL BH T N m A j) :
    ∃ j1 : MI, px_X (d + 5 + 1) 180 (75, [vR 123], []) (px_sh L, j, l, r, tt) = px_X (d + 5 + 1) 180 (75, [vR 123], []) (px_sh L, j1, l, r, tt) ∧ tz_res K U PL BH T N m A.1 (tz_stp K U A) j j1 := by
  obtain ⟨t, o, F, W, st, C, D, kd⟩ := A
  have h' := h
  have hb' := hb
  obtain ⟨hT, hF, hW, hC, hD, h19, h20, h21, h28⟩ := h
  have hs0 := tz_k0 hT.2.2.2.2.2
  have hst : st = 0 ∨ st = 1 ∨ st = 2 ∨ st = 3 ∨ st = 4 := by
    rcases hb.2.2.2 with g | g
    · have := g.1
      omega
    · have := g.1
      omega
  have e97 : px_X (d + 5 + 1) 180 (75, [vR 123], []) (px_sh L, j, l, r, tt) = px_X (d + 5 + 1) 180 (97, [vR 123], []) (px_sh L, j, l, r, tt) := by
    rw [b180_75 hr, if_pos h19, h28]
    by_cases hs : st = 4
    · rw [if_pos hs, if_neg (fun g => h4 ⟨hs, hs0.mp g⟩)]
    · rw [if_neg hs]
  rw [e97, b180_97 hr, h28]
  show ∃ j1 : MI, _ ∧ tz_res K U PL BH T N m t (if st = 0 then tz_s0 K t o F W C D kd else if st = 1 then tz_s1 K U t o F W C D kd else if st = 2 then tz_s2 K t o F W C D kd else if st = 3 then tz_s3 K t o F W C D kd else tz_s4 K t o F W D) j j1
  rcases hst with rfl | rfl | rfl | rfl | rfl
  · obtain ⟨j1, r1, c1⟩ := tz_169 (L := L) (r := r) (tt := tt) hr hX hK d j l t o F W C D kd hb' h'
    rw [if_pos rfl, if_pos rfl, r1, Option.bind_some, px_psh_none, b180_136 hr]
    exact ⟨j1, rfl, c1⟩
  · obtain ⟨j1, r1, c1⟩ := tz_171 (L := L) (r := r) (tt := tt) hr hX hK d j l t o F W C D kd hb' h'
    rw [if_neg (by omega), if_pos rfl, if_neg (by omega), if_pos rfl, r1, Option.bind_some, px_psh_none, b180_143 hr]
    exact ⟨j1, rfl, c1⟩
  · obtain ⟨j1, r1, c1⟩ := tz_175 (L := L) (r := r) (tt := tt) hr hX hK d j l t o F W C D kd hb' h'
    rw [if_neg (by omega), if_neg (by omega), if_pos rfl, if_neg (by omega), if_neg (by omega), if_pos rfl, r1, Option.bind_some, px_psh_none, b180_150 hr]
    exact ⟨j1, rfl, c1⟩
  · obtain ⟨j1, r1, c1⟩ := tz_176 (L := L) (r := r) (tt := tt) hr hX hK d j l t o F W C D kd hb' h'
    rw [if_neg (by omega), if_neg (by omega), if_neg (by omega), if_pos rfl, if_neg (by omega), if_neg (by omega), if_neg (by omega), if_pos rfl, r1, Option.bind_some, px_psh_none, b180_157 hr]
    exact ⟨j1, rfl, c1⟩
  · obtain ⟨j1, r1, c1⟩ := tz_179 (L := L) (r := r) (tt := tt) hr hX hK d j l t o F W C D kd hb' h'
    rw [if_neg (by omega), if_neg (by omega), if_neg (by omega), if_neg (by omega), if_neg (by omega), if_neg (by omega), if_neg (by omega), if_neg (by omega), r1, Option.bind_some, px_psh_none, b180_164 hr]
    exact ⟨j1, rfl, c1⟩
/-- what a run leaves -/
def tz_end (K U PL BH : Nat → Int) (T : Int → Int) (N : Int) (m : Nat) (R : (Int × Nat) ⊕ tz_RS) (j1 : MI) : Prop := match R with
  | .inl (e, t) => j1 123 19 = e ∧ j1 123 20 = PL t
  | .inr A => tz_RC K U PL BH T N m A j1
theorem tz_run (hr : px_hr r) (hX : tz_NX K U PL BH T N m) (hK : ∀ t, t ≤ m → (K t = 0 ↔ t = m)) (d : Nat) (l : MI) : ∀ (n : Nat) (A : tz_RS) (R : (Int × Nat) ⊕ tz_RS) (j : MI), tz_chn K U m n A R → tz_RC K U PL BH T N m A j →
    ∃ j1 : MI, px_X (d + 5 + 1) 180 (75, [vR 123], []) (px_sh L, j, l, r, tt) = px_X (d + 5 + 1) 180 (75, [vR 123], []) (px_sh L, j1, l, r, tt) ∧ tz_q tz_KS tz_FS j j1 ∧ tz_end K U PL BH T N m R j1
  | 0, A, R, j, hc, h => by
    have e : R = .inr A := hc
    rw [e]
    exact ⟨j, rfl, tz_q_rf, h⟩
  | n + 1, A, R, j, hc, h => by
    obtain ⟨hb, h4, hc⟩ := hc
    obtain ⟨j1, r1, q1, c1⟩ := tz_loop (L := L) (r := r) (tt := tt) hr hX hK d j l A hb h4 h
    rcases hc with ⟨e, h1, h2⟩ | ⟨A', h1, h2⟩
    · rw [h1] at c1
      rw [h2]
      exact ⟨j1, r1, q1, c1⟩
    · rw [h1] at c1
      obtain ⟨j2, r2, q2, c2⟩ := tz_run hr hX hK d l n A' R j1 h2 c1
      exact ⟨j2, r1.trans r2, tz_q_tr q1 q2 rfl rfl rfl rfl, c2⟩
end TYPV
