/-! Cells below 3 (the script, what the class reads) stay as they are. -/
def tz_kp (s s' : PM) : Prop := 3 ≤ s.1.length → 3 ≤ s'.1.length ∧ ∀ k, k < 3 → s'.2.1 k = s.2.1 k
theorem tz_kp_rf (s : PM) : tz_kp s s := fun h => ⟨h, fun _ _ => rfl⟩
theorem tz_kp_tr {a b c : PM} (h1 : tz_kp a b) (h2 : tz_kp b c) : tz_kp a c := fun h => ⟨(h2 (h1 h).1).1, fun k hk => ((h2 (h1 h).1).2 k hk).trans ((h1 h).2 k hk)⟩
theorem tz_kp_up {s : PM} {l : MI} {r : MR} {t k : Nat} {x v : Int} (h : 3 ≤ k) : tz_kp s (s.1, px_up s.2.1 k x v, l, r, t) := fun h3 => ⟨h3, fun k' hk => ty_up_row (by omega)⟩
theorem tz_kp_un {s : PM} {l : MI} {r : MR} {t k : Nat} {g : Int → Int} (h : 3 ≤ k) : tz_kp s (s.1, px_un s.2.1 k g, l, r, t) := fun h3 => ⟨h3, fun k' hk => ty_un_row (by omega)⟩
section TYKP
variable {m pc : Nat} {pl st : List PV} {s : PM} {r : PRes}
theorem tz_m_nx {ls st : List PV} (h : px_nx pc ls st s = some r) : tz_kp s (px_rs r) := by cases h; exact tz_kp_rf _
theorem tz_m_i2 {g : Int → Int → Int} (h : px_i2 g pc pl st s = some r) : tz_kp s (px_rs r) := by
  unfold px_i2 at h; split at h <;> cases h; exact tz_kp_rf _
theorem tz_m_l2 {g : Int → Int → Int} (h : px_l2 g pc pl st s = some r) : tz_kp s (px_rs r) := by
  unfold px_l2 at h; split at h <;> cases h; exact tz_kp_rf _
theorem tz_m_ls {g : Int → Int → Int} (h : px_ls g pc pl st s = some r) : tz_kp s (px_rs r) := by
  unfold px_ls at h; split at h <;> cases h; exact tz_kp_rf _
theorem tz_m_ld {i len : Nat} (h : px_ld i len pc pl st s = some r) : tz_kp s (px_rs r) := by
  unfold px_ld at h; split at h <;> cases h; exact tz_kp_rf _
theorem tz_m_lld {i len : Nat} (h : px_lld i len pc pl st s = some r) : tz_kp s (px_rs r) := by
  unfold px_lld at h; split at h <;> cases h; exact tz_kp_rf _
theorem tz_m_ald {i len : Nat} (h : px_ald i len pc pl st s = some r) : tz_kp s (px_rs r) := by
  unfold px_ald at h; split at h <;> cases h; exact tz_kp_rf _
theorem tz_m_ist {i len : Nat} (h : px_ist i len pc pl st s = some r) : tz_kp s (px_rs r) := by
  unfold px_ist at h; repeat' split at h
  all_goals first | (cases h; done) | (cases h; exact tz_kp_rf _)
theorem tz_m_lst {i len : Nat} (h : px_lst i len pc pl st s = some r) : tz_kp s (px_rs r) := by
  unfold px_lst at h; repeat' split at h
  all_goals first | (cases h; done) | (cases h; exact tz_kp_rf _)
theorem tz_m_ast {i len : Nat} (h : px_ast i len pc pl st s = some r) : tz_kp s (px_rs r) := by
  unfold px_ast at h; repeat' split at h
  all_goals first | (cases h; done) | (cases h; exact tz_kp_rf _)
theorem tz_m_get {ci ty : Nat} {j : Int} (h : px_get ci ty j pc pl st s = some r) : tz_kp s (px_rs r) := by
  unfold px_get at h; repeat' split at h
  all_goals first | (cases h; done) | (cases h; exact tz_kp_rf _)
theorem tz_m_put {ci ty : Nat} {j : Int} (h : px_put ci ty j pc pl st s = some r) : tz_kp s (px_rs r) := by
  unfold px_put at h; repeat' split at h
  all_goals first | (cases h; done) | (cases h; exact tz_kp_rf _) | (cases h; exact tz_kp_up (by omega)) | (cases h; exact tz_kp_un (by omega))
theorem tz_m_aln (h : px_aln pc pl st s = some r) : tz_kp s (px_rs r) := by
  unfold px_aln at h; repeat' split at h
  all_goals first | (cases h; done) | (cases h; exact tz_kp_rf _)
theorem tz_m_ild {kd : Nat → Bool} (h : px_ild kd pc pl st s = some r) : tz_kp s (px_rs r) := by
  unfold px_ild at h; repeat' split at h
  all_goals first | (cases h; done) | (cases h; exact tz_kp_rf _)
theorem tz_m_jld (h : px_jld pc pl st s = some r) : tz_kp s (px_rs r) := by
  unfold px_jld at h; repeat' split at h
  all_goals first | (cases h; done) | (cases h; exact tz_kp_rf _)
theorem tz_m_qld (h : px_qld pc pl st s = some r) : tz_kp s (px_rs r) := by
  unfold px_qld at h; repeat' split at h
  all_goals first | (cases h; done) | (cases h; exact tz_kp_rf _)
theorem tz_m_iss (h : px_iss pc pl st s = some r) : tz_kp s (px_rs r) := by
  unfold px_iss at h; repeat' split at h
  all_goals first | (cases h; done) | (cases h; exact tz_kp_rf _) | (cases h; exact tz_kp_up (by omega)) | (cases h; exact tz_kp_un (by omega))
theorem tz_m_bss (h : px_bss pc pl st s = some r) : tz_kp s (px_rs r) := by
  unfold px_bss at h; repeat' split at h
  all_goals first | (cases h; done) | (cases h; exact tz_kp_rf _) | (cases h; exact tz_kp_up (by omega)) | (cases h; exact tz_kp_un (by omega))
theorem tz_m_jss (h : px_jss pc pl st s = some r) : tz_kp s (px_rs r) := by
  unfold px_jss at h; repeat' split at h
  all_goals first | (cases h; done) | (cases h; exact tz_kp_rf _)
theorem tz_m_qss (h : px_qss pc pl st s = some r) : tz_kp s (px_rs r) := by
  unfold px_qss at h; repeat' split at h
  all_goals first | (cases h; done) | (cases h; exact tz_kp_rf _)
theorem tz_kp_mk (x : Sh) (n : Nat) : tz_kp s (px_mk s x n) := fun h3 => ⟨by
  unfold px_mk
  rw [List.length_append]
  omega, fun k hk => ty_un_row (by omega)⟩
theorem tz_m_new {ci : Nat} (h : px_new ci pc pl st s = some r) : tz_kp s (px_rs r) := by
  cases h; exact tz_kp_mk _ _
theorem tz_m_nwa {kd len : Nat} (h : px_nwa kd len pc pl st s = some r) : tz_kp s (px_rs r) := by
  unfold px_nwa at h; repeat' split at h
  all_goals first | (cases h; done) | (cases h; exact tz_kp_mk _ _)
theorem tz_m_acp (h : px_acp pc pl st s = some r) : tz_kp s (px_rs r) := by
  unfold px_acp at h; repeat' split at h
  all_goals first | (cases h; done) | (cases h; exact tz_kp_rf _) | (cases h; exact tz_kp_up (by omega)) | (cases h; exact tz_kp_un (by omega))
theorem tz_m_sln (h : px_sln pc pl st s = some r) : tz_kp s (px_rs r) := by
  unfold px_sln at h; repeat' split at h
  all_goals first | (cases h; done) | (cases h; exact tz_kp_rf _)
theorem tz_m_sch (h : px_sch pc pl st s = some r) : tz_kp s (px_rs r) := by
  unfold px_sch at h; repeat' split at h
  all_goals first | (cases h; done) | (cases h; exact tz_kp_rf _)
theorem tz_m_mi {g : Int → Int → Int} (h : px_mi g pc pl st s = some r) : tz_kp s (px_rs r) := by
  unfold px_mi at h; repeat' split at h
  all_goals first | (cases h; done) | (cases h; exact tz_kp_rf _)
theorem tz_m_mj {g : Int → Int → Int} (h : px_mj g pc pl st s = some r) : tz_kp s (px_rs r) := by
  unfold px_mj at h; repeat' split at h
  all_goals first | (cases h; done) | (cases h; exact tz_kp_rf _)
theorem tz_m_ma (h : px_ma pc pl st s = some r) : tz_kp s (px_rs r) := by
  unfold px_ma at h; repeat' split at h
  all_goals first | (cases h; done) | (cases h; exact tz_kp_rf _)
theorem tz_m_call {m' kd : Nat} (h : px_call m' kd pc pl st s = some r) : tz_kp s (px_rs r) := by
  unfold px_call at h; repeat' split at h
  all_goals first | (cases h; done) | (cases h; exact tz_kp_rf _)
theorem tz_m_br {cd : ClassFile.Cond} {x y : Int} {tgt : Nat} (h : px_br cd x y tgt pc pl st s = some r) : tz_kp s (px_rs r) := by
  unfold px_br at h; repeat' split at h
  all_goals first | (cases h; done) | (cases h; exact tz_kp_rf _)
theorem tz_ex_kp {e : PE} (h : px_ex m e pc pl st s = some r) : tz_kp s (px_rs r) := by
  obtain ⟨ins, len, ops, val⟩ := e
  cases ins <;> (unfold px_ex at h; dsimp only at h) <;> first
    | (cases h; done)
    | exact tz_m_i2 h | exact tz_m_l2 h | exact tz_m_ls h | exact tz_m_ld h | exact tz_m_lld h | exact tz_m_ald h | exact tz_m_ist h | exact tz_m_lst h | exact tz_m_ast h
    | exact tz_m_aln h | exact tz_m_ild h | exact tz_m_jld h | exact tz_m_qld h | exact tz_m_iss h | exact tz_m_bss h | exact tz_m_jss h | exact tz_m_qss h
    | exact tz_m_nx h
    | ((repeat' split at h) <;> first | (cases h; done) | exact tz_m_nx h | exact tz_m_get h | exact tz_m_put h | exact tz_m_new h | exact tz_m_nwa h | exact tz_m_acp h | exact tz_m_sln h | exact tz_m_sch h | exact tz_m_mi h | exact tz_m_mj h | exact tz_m_ma h | exact tz_m_call h | exact tz_m_br h | (cases h; exact tz_kp_rf _))
theorem tz_stp_kp {f : FR} (h : px_stp m f s = some r) : tz_kp s (px_rs r) := by
  unfold px_stp at h
  split at h
  · exact tz_ex_kp h
  · cases h
end TYKP
theorem tz_run_kp : ∀ (n d m : Nat) (f : FR) (s : PM) (v : Option PV) (s' : PM), px_run n d m f s = some (v, s') → tz_kp s s'
  | 0, _, _, _, _, _, _, h => by cases h
  | n + 1, d, m, f, s, v, s', h => by
    unfold px_run at h
    split at h
    · cases h
    · rename_i f1 s1 hs
      exact tz_kp_tr (tz_stp_kp hs) (tz_run_kp n d m f1 s1 v s' h)
    · rename_i r hs
      cases h
      exact tz_stp_kp hs
    · rename_i m' as f1 s1 hs
      have h1 := tz_stp_kp hs
      split at h
      · cases h
      · split at h
        · cases h
        · rename_i v2 s2 hr
          exact tz_kp_tr h1 (tz_kp_tr (tz_run_kp n _ m' _ s1 v2 s2 hr) (tz_run_kp n _ m _ s2 v s' h))
theorem tz_X_kp {d m : Nat} {f : FR} {s s' : PM} {v : Option PV} (h : px_X d m f s = some (v, s')) : tz_kp s s' := by
  obtain ⟨n, hn⟩ := px_X_iff.mp h
  exact tz_run_kp n d m f s v s' hn
