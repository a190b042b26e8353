/-! The pure machine only makes cells; what its calls and ends are. -/
def px_rs (r : PRes) : PM := match r with
  | .inl x => x.2
  | .inr (.inl x) => x.2
  | .inr (.inr x) => x.2.2.2
def px_le (s s' : PM) : Prop := s.1.length ≤ s'.1.length ∧ s.2.2.2.2 ≤ s'.2.2.2.2
theorem px_le_rf (s : PM) : px_le s s := ⟨Nat.le_refl _, Nat.le_refl _⟩
theorem px_le_tr {a b c : PM} (h1 : px_le a b) (h2 : px_le b c) : px_le a c := ⟨Nat.le_trans h1.1 h2.1, Nat.le_trans h1.2 h2.2⟩
section PX7
variable {m pc : Nat} {pl st : List PV} {s : PM} {r : PRes}
theorem px_m_nx {ls st : List PV} (h : px_nx pc ls st s = some r) : px_le s (px_rs r) := by cases h; exact px_le_rf _
theorem px_m_i2 {g : Int → Int → Int} (h : px_i2 g pc pl st s = some r) : px_le s (px_rs r) := by
  unfold px_i2 at h; split at h <;> cases h; exact px_le_rf _
theorem px_m_l2 {g : Int → Int → Int} (h : px_l2 g pc pl st s = some r) : px_le s (px_rs r) := by
  unfold px_l2 at h; split at h <;> cases h; exact px_le_rf _
theorem px_m_ls {g : Int → Int → Int} (h : px_ls g pc pl st s = some r) : px_le s (px_rs r) := by
  unfold px_ls at h; split at h <;> cases h; exact px_le_rf _
theorem px_m_ld {i len : Nat} (h : px_ld i len pc pl st s = some r) : px_le s (px_rs r) := by
  unfold px_ld at h; split at h <;> cases h; exact px_le_rf _
theorem px_m_lld {i len : Nat} (h : px_lld i len pc pl st s = some r) : px_le s (px_rs r) := by
  unfold px_lld at h; split at h <;> cases h; exact px_le_rf _
theorem px_m_ald {i len : Nat} (h : px_ald i len pc pl st s = some r) : px_le s (px_rs r) := by
  unfold px_ald at h; split at h <;> cases h; exact px_le_rf _
theorem px_m_ist {i len : Nat} (h : px_ist i len pc pl st s = some r) : px_le s (px_rs r) := by
  unfold px_ist at h; repeat' split at h
  all_goals first | (cases h; done) | (cases h; exact px_le_rf _)
theorem px_m_lst {i len : Nat} (h : px_lst i len pc pl st s = some r) : px_le s (px_rs r) := by
  unfold px_lst at h; repeat' split at h
  all_goals first | (cases h; done) | (cases h; exact px_le_rf _)
theorem px_m_ast {i len : Nat} (h : px_ast i len pc pl st s = some r) : px_le s (px_rs r) := by
  unfold px_ast at h; repeat' split at h
  all_goals first | (cases h; done) | (cases h; exact px_le_rf _)
theorem px_m_get {ci ty : Nat} {j : Int} (h : px_get ci ty j pc pl st s = some r) : px_le s (px_rs r) := by
  unfold px_get at h; repeat' split at h
  all_goals first | (cases h; done) | (cases h; exact px_le_rf _)
theorem px_m_put {ci ty : Nat} {j : Int} (h : px_put ci ty j pc pl st s = some r) : px_le s (px_rs r) := by
  unfold px_put at h; repeat' split at h
  all_goals first | (cases h; done) | (cases h; exact px_le_rf _)
theorem px_m_aln (h : px_aln pc pl st s = some r) : px_le s (px_rs r) := by
  unfold px_aln at h; repeat' split at h
  all_goals first | (cases h; done) | (cases h; exact px_le_rf _)
theorem px_m_ild {kd : Nat → Bool} (h : px_ild kd pc pl st s = some r) : px_le s (px_rs r) := by
  unfold px_ild at h; repeat' split at h
  all_goals first | (cases h; done) | (cases h; exact px_le_rf _)
theorem px_m_jld (h : px_jld pc pl st s = some r) : px_le s (px_rs r) := by
  unfold px_jld at h; repeat' split at h
  all_goals first | (cases h; done) | (cases h; exact px_le_rf _)
theorem px_m_qld (h : px_qld pc pl st s = some r) : px_le s (px_rs r) := by
  unfold px_qld at h; repeat' split at h
  all_goals first | (cases h; done) | (cases h; exact px_le_rf _)
theorem px_m_iss (h : px_iss pc pl st s = some r) : px_le s (px_rs r) := by
  unfold px_iss at h; repeat' split at h
  all_goals first | (cases h; done) | (cases h; exact px_le_rf _)
theorem px_m_bss (h : px_bss pc pl st s = some r) : px_le s (px_rs r) := by
  unfold px_bss at h; repeat' split at h
  all_goals first | (cases h; done) | (cases h; exact px_le_rf _)
theorem px_m_jss (h : px_jss pc pl st s = some r) : px_le s (px_rs r) := by
  unfold px_jss at h; repeat' split at h
  all_goals first | (cases h; done) | (cases h; exact px_le_rf _)
theorem px_m_qss (h : px_qss pc pl st s = some r) : px_le s (px_rs r) := by
  unfold px_qss at h; repeat' split at h
  all_goals first | (cases h; done) | (cases h; exact px_le_rf _)
theorem px_le_mk (x : Sh) (n : Nat) : px_le s (px_mk s x n) := ⟨by simp [px_mk], Nat.le_add_right _ _⟩
theorem px_m_new {ci : Nat} (h : px_new ci pc pl st s = some r) : px_le s (px_rs r) := by
  cases h; exact px_le_mk _ _
theorem px_m_nwa {kd len : Nat} (h : px_nwa kd len pc pl st s = some r) : px_le s (px_rs r) := by
  unfold px_nwa at h; repeat' split at h
  all_goals first | (cases h; done) | (cases h; exact px_le_mk _ _)
theorem px_m_acp (h : px_acp pc pl st s = some r) : px_le s (px_rs r) := by
  unfold px_acp at h; repeat' split at h
  all_goals first | (cases h; done) | (cases h; exact px_le_rf _)
theorem px_m_sln (h : px_sln pc pl st s = some r) : px_le s (px_rs r) := by
  unfold px_sln at h; repeat' split at h
  all_goals first | (cases h; done) | (cases h; exact px_le_rf _)
theorem px_m_sch (h : px_sch pc pl st s = some r) : px_le s (px_rs r) := by
  unfold px_sch at h; repeat' split at h
  all_goals first | (cases h; done) | (cases h; exact px_le_rf _)
theorem px_m_mi {g : Int → Int → Int} (h : px_mi g pc pl st s = some r) : px_le s (px_rs r) := by
  unfold px_mi at h; repeat' split at h
  all_goals first | (cases h; done) | (cases h; exact px_le_rf _)
theorem px_m_mj {g : Int → Int → Int} (h : px_mj g pc pl st s = some r) : px_le s (px_rs r) := by
  unfold px_mj at h; repeat' split at h
  all_goals first | (cases h; done) | (cases h; exact px_le_rf _)
theorem px_m_ma (h : px_ma pc pl st s = some r) : px_le s (px_rs r) := by
  unfold px_ma at h; repeat' split at h
  all_goals first | (cases h; done) | (cases h; exact px_le_rf _)
theorem px_m_call {m' kd : Nat} (h : px_call m' kd pc pl st s = some r) : px_le s (px_rs r) := by
  unfold px_call at h; repeat' split at h
  all_goals first | (cases h; done) | (cases h; exact px_le_rf _)
theorem px_m_br {cd : ClassFile.Cond} {x y : Int} {tgt : Nat} (h : px_br cd x y tgt pc pl st s = some r) : px_le s (px_rs r) := by
  unfold px_br at h; repeat' split at h
  all_goals first | (cases h; done) | (cases h; exact px_le_rf _)
theorem px_ex_mono {e : PE} (h : px_ex m e pc pl st s = some r) : px_le s (px_rs r) := by
  obtain ⟨ins, len, ops, val⟩ := e
  cases ins <;> (unfold px_ex at h; dsimp only at h) <;> first
    | (cases h; done)
    | exact px_m_i2 h | exact px_m_l2 h | exact px_m_ls h | exact px_m_ld h | exact px_m_lld h | exact px_m_ald h | exact px_m_ist h | exact px_m_lst h | exact px_m_ast h
    | exact px_m_aln h | exact px_m_ild h | exact px_m_jld h | exact px_m_qld h | exact px_m_iss h | exact px_m_bss h | exact px_m_jss h | exact px_m_qss h
    | exact px_m_nx h
    | ((repeat' split at h) <;> first | (cases h; done) | exact px_m_nx h | exact px_m_get h | exact px_m_put h | exact px_m_new h | exact px_m_nwa h | exact px_m_acp h | exact px_m_sln h | exact px_m_sch h | exact px_m_mi h | exact px_m_mj h | exact px_m_ma h | exact px_m_call h | exact px_m_br h | (cases h; exact px_le_rf _))
theorem px_stp_mono {f : FR} (h : px_stp m f s = some r) : px_le s (px_rs r) := by
  unfold px_stp at h
  split at h
  · exact px_ex_mono h
  · cases h
end PX7
theorem px_run_mono : ∀ (n d m : Nat) (f : FR) (s : PM) (v : Option PV) (s' : PM), px_run n d m f s = some (v, s') → px_le s s'
  | 0, _, _, _, _, _, _, h => by cases h
  | n + 1, d, m, f, s, v, s', h => by
    unfold px_run at h
    split at h
    · cases h
    · rename_i f1 s1 hs
      exact px_le_tr (px_stp_mono hs) (px_run_mono n d m f1 s1 v s' h)
    · rename_i r hs
      cases h
      exact px_stp_mono hs
    · rename_i m' as f1 s1 hs
      have h1 := px_stp_mono hs
      split at h
      · cases h
      · split at h
        · cases h
        · rename_i v2 s2 hr
          exact px_le_tr h1 (px_le_tr (px_run_mono n _ m' _ s1 v2 s2 hr) (px_run_mono n _ m _ s2 v s' h))
def px_RET (m : Nat) (v : Option PV) (pc : Nat) : Prop := match v with
  | none => decode (px_by m) pc = .ok (.return_, 1) ∧ px_ret m = none
  | some (.inl x) => decode (px_by m) pc = .ok (.ireturn, 1) ∧ (px_ret m = some .int ∨ px_ret m = some .boolean ∧ (x = 0 ∨ x = 1))
  | some (.inr (.inl _)) => decode (px_by m) pc = .ok (.lreturn, 1) ∧ px_ret m = some .long
  | some (.inr (.inr (.inl _))) => decode (px_by m) pc = .ok (.areturn, 1) ∧ ∃ C, px_ret m = some (.object C)
  | some (.inr (.inr (.inr _))) => False
section PX8
variable {m pc : Nat} {pl st : List PV} {s s' : PM}
theorem px_r_ld {i len : Nat} {v : Option PV} : ¬ px_ld i len pc pl st s = some (.inr (.inl (v, s'))) := by
  intro h; unfold px_ld at h; split at h <;> cases h
/-- the ends -/
theorem px_ex_ret {e : PE} {v : Option PV} (hd : decode (px_by m) pc = .ok (e.1, e.2.1)) (hl : px_sw e.1 = false → e.2.1 = px_len e.1) (h : px_ex m e pc pl st s = some (.inr (.inl (v, s')))) : s' = s ∧ st = v.toList ∧ px_RET m v pc := by
  obtain ⟨ins, len, ops, val⟩ := e
  dsimp only at hd hl
  cases ins
  case ireturn =>
    have hl := hl rfl
    subst hl
    unfold px_ex at h; dsimp only at h
    split at h
    · split at h
      · rename_i hc
        cases h
        exact ⟨rfl, rfl, hd, hc⟩
      · cases h
    · cases h
  case lreturn =>
    have hl := hl rfl
    subst hl
    unfold px_ex at h; dsimp only at h
    split at h
    · split at h
      · rename_i hc
        cases h
        exact ⟨rfl, rfl, hd, hc⟩
      · cases h
    · cases h
  case areturn =>
    have hl := hl rfl
    subst hl
    unfold px_ex at h; dsimp only at h
    split at h
    · split at h
      · rename_i C hc
        cases h
        exact ⟨rfl, rfl, hd, C, hc⟩
      · cases h
    · cases h
  case return_ =>
    have hl := hl rfl
    subst hl
    unfold px_ex at h; dsimp only at h
    split at h
    · split at h
      · rename_i hc
        cases h
        exact ⟨rfl, rfl, hd, hc⟩
      · cases h
    · cases h
  all_goals
    exfalso
    unfold px_ex at h; dsimp only at h
    first
    | (cases h; done)
    | ((try unfold px_i2 at h); (try unfold px_l2 at h); (try unfold px_ls at h); (try unfold px_ld at h); (try unfold px_lld at h); (try unfold px_ald at h); (try unfold px_ist at h); (try unfold px_lst at h); (try unfold px_ast at h)
       (try unfold px_aln at h); (try unfold px_ild at h); (try unfold px_jld at h); (try unfold px_qld at h); (try unfold px_iss at h); (try unfold px_bss at h); (try unfold px_jss at h); (try unfold px_qss at h); (try unfold px_nwa at h)
       (repeat' split at h) <;> first | (cases h; done) | (unfold px_get at h; (repeat' split at h) <;> cases h; done) | (unfold px_put at h; (repeat' split at h) <;> cases h; done) | (unfold px_acp at h; (repeat' split at h) <;> cases h; done) | (unfold px_call at h; (repeat' split at h) <;> cases h; done) | (unfold px_br at h; (repeat' split at h) <;> cases h; done) | (unfold px_sln at h; (repeat' split at h) <;> cases h; done) | (unfold px_sch at h; (repeat' split at h) <;> cases h; done) | (unfold px_mi at h; (repeat' split at h) <;> cases h; done) | (unfold px_mj at h; (repeat' split at h) <;> cases h; done) | (unfold px_ma at h; (repeat' split at h) <;> cases h; done) | (unfold px_nwa at h; (repeat' split at h) <;> cases h; done))
/-- the calls -/
theorem px_ex_call {e : PE} {m' : Nat} {as : List PV} {f' : FR} (hd : decode (px_by m) pc = .ok (e.1, e.2.1)) (hl : px_sw e.1 = false → e.2.1 = px_len e.1) (hlk : px_lk m pc e = true) (h : px_ex m e pc pl st s = some (.inr (.inr (m', as, f', s')))) :
    ∃ (kd : Nat) (l0 nest i : Nat), px_call m' kd pc pl st s = some (.inr (.inr (m', as, f', s'))) ∧ px_mlk[l0]? = some (px_mo m, i, m', nest) ∧ px_kd m' = kd ∧ (kd = 0 ∧ decode (px_by m) pc = .ok (.invokestatic i, 3) ∨ kd = 1 ∧ decode (px_by m) pc = .ok (.invokevirtual i, 3) ∨ kd = 2 ∧ decode (px_by m) pc = .ok (.invokespecial i, 3)) := by
  obtain ⟨ins, len, ops, val⟩ := e
  dsimp only at hd hl
  have lk : ∀ (l0 i m2 kd : Nat), (match px_mlk[l0]? with | some (o, i', m3, _) => o == px_mo m && i' == i && m3 == m2 && px_kd m2 == kd | none => false) = true → ∃ nest, px_mlk[l0]? = some (px_mo m, i, m2, nest) ∧ px_kd m2 = kd := by
    intro l0 i m2 kd hq
    cases hz : px_mlk[l0]? with
    | none => rw [hz] at hq; cases hq
    | some q =>
      obtain ⟨o, i', m3, ne⟩ := q
      rw [hz] at hq
      simp only [Bool.and_eq_true, beq_iff_eq] at hq
      obtain ⟨⟨⟨rfl, rfl⟩, rfl⟩, h4⟩ := hq
      exact ⟨ne, rfl, h4⟩
  have cl : ∀ (m2 kd : Nat), px_call m2 kd pc pl st s = some (.inr (.inr (m', as, f', s'))) → m2 = m' := by
    intro m2 kd hq
    unfold px_call at hq
    (repeat' split at hq) <;> cases hq <;> rfl
  cases ins
  case invokestatic i =>
    have hl := hl rfl
    subst hl
    unfold px_ex at h; dsimp only at h
    split at h
    · rename_i l0 m2
      obtain ⟨ne, g1, g2⟩ := lk l0 i m2 0 hlk
      have := cl _ _ h
      subst this
      exact ⟨0, l0, ne, i, h, g1, g2, Or.inl ⟨rfl, hd⟩⟩
    all_goals first | (cases h; done) | (exfalso; unfold px_acp at h; (repeat' split at h) <;> cases h; done) | (exfalso; unfold px_mi at h; (repeat' split at h) <;> cases h; done) | (exfalso; unfold px_mj at h; (repeat' split at h) <;> cases h; done) | (exfalso; unfold px_ma at h; (repeat' split at h) <;> cases h; done)
  case invokevirtual i =>
    have hl := hl rfl
    subst hl
    unfold px_ex at h; dsimp only at h
    split at h
    · rename_i l0 m2
      obtain ⟨ne, g1, g2⟩ := lk l0 i m2 1 hlk
      have := cl _ _ h
      subst this
      exact ⟨1, l0, ne, i, h, g1, g2, Or.inr (Or.inl ⟨rfl, hd⟩)⟩
    all_goals first | (cases h; done) | (exfalso; unfold px_sln at h; (repeat' split at h) <;> cases h; done) | (exfalso; unfold px_sch at h; (repeat' split at h) <;> cases h; done)
  case invokespecial i =>
    have hl := hl rfl
    subst hl
    unfold px_ex at h; dsimp only at h
    split at h
    · rename_i l0 m2
      obtain ⟨ne, g1, g2⟩ := lk l0 i m2 2 hlk
      have := cl _ _ h
      subst this
      exact ⟨2, l0, ne, i, h, g1, g2, Or.inr (Or.inr ⟨rfl, hd⟩)⟩
    all_goals first | (cases h; done) | (exfalso; (repeat' split at h) <;> cases h; done)
  all_goals
    exfalso
    unfold px_ex at h; dsimp only at h
    first
    | (cases h; done)
    | ((try unfold px_i2 at h); (try unfold px_l2 at h); (try unfold px_ls at h); (try unfold px_ld at h); (try unfold px_lld at h); (try unfold px_ald at h); (try unfold px_ist at h); (try unfold px_lst at h); (try unfold px_ast at h)
       (try unfold px_aln at h); (try unfold px_ild at h); (try unfold px_jld at h); (try unfold px_qld at h); (try unfold px_iss at h); (try unfold px_bss at h); (try unfold px_jss at h); (try unfold px_qss at h); (try unfold px_nwa at h)
       (repeat' split at h) <;> first | (cases h; done) | (unfold px_get at h; (repeat' split at h) <;> cases h; done) | (unfold px_put at h; (repeat' split at h) <;> cases h; done) | (unfold px_br at h; (repeat' split at h) <;> cases h; done) | (unfold px_nwa at h; (repeat' split at h) <;> cases h; done))
end PX8
