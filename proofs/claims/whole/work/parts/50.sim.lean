/-! What the pure machine answers, the real machine does. -/
def px_rm (d mc ms : Nat) : Room := { frames := d + 10, cells := mc, slots := ms, locals := (d + 10) * 100 }
def px_wsm (m : Nat) : List Cond := .code (px_y m) (px_by m) (px_ml m) (px_ret m) :: px_gt
def px_pre (G : PG) (L : Nat) (xs alw : Nat → Int32) (SF : State → Heap → Prop) (as : List PV) (s : PM) : Array Value → State → Prop := fun a U => a = (as.map (px_tr G)).toArray ∧ px_ENV G L xs alw SF U U.heap ∧ px_rel G L xs alw s U.heap
def px_post (G : PG) (L : Nat) (xs alw : Nat → Int32) (v : Option PV) (s' : PM) : Array Value → State → Outcome → State → Prop := fun _ st o t => o = .returned (v.map (px_tr G)) ∧ px_rel G L xs alw s' t.heap ∧ va_F (px_A G) st t ∧ px_okl v.toList
def px_MET (l : Launch) (G : PG) (L : Nat) (xs alw : Nat → Int32) (SF : State → Heap → Prop) (d m : Nat) (as : List PV) (s : PM) (v : Option PV) (s' : PM) : Prop :=
  Met l (px_y m) (px_wsm m) (px_rm d (s'.1.length - s.1.length) (s'.2.2.2.2 - s.2.2.2.2)) (px_pre G L xs alw SF as s) (px_post G L xs alw v s') (s'.1.length - s.1.length) (s'.2.2.2.2 - s.2.2.2.2) (px_A G)
theorem px_cw_in {ps ms : List Nat} (h : ps.map (fun p => lw_tbl[p]?) = ms.map (fun m => some (px_cw m))) {m : Nat} (hm : m ∈ ms) : px_cw m ∈ lw_tbl := by
  have h1 : some (px_cw m) ∈ ps.map (fun p => lw_tbl[p]?) := by rw [h]; exact List.mem_map.mpr ⟨m, hm, rfl⟩
  obtain ⟨p, -, hp⟩ := List.mem_map.mp h1
  exact List.mem_of_getElem? hp
theorem px_cw_mem {m : Nat} (h : m < 243) : px_cw m ∈ lw_tbl := by
  rcases Nat.lt_or_ge m 16 with h0 | h0
  · exact px_cw_in px_cw0 (by simp only [List.mem_cons, List.not_mem_nil, or_false]; omega)
  rcases Nat.lt_or_ge m 32 with h1 | h1
  · exact px_cw_in px_cw1 (by simp only [List.mem_cons, List.not_mem_nil, or_false]; omega)
  rcases Nat.lt_or_ge m 48 with h2 | h2
  · exact px_cw_in px_cw2 (by simp only [List.mem_cons, List.not_mem_nil, or_false]; omega)
  rcases Nat.lt_or_ge m 64 with h3 | h3
  · exact px_cw_in px_cw3 (by simp only [List.mem_cons, List.not_mem_nil, or_false]; omega)
  rcases Nat.lt_or_ge m 80 with h4 | h4
  · exact px_cw_in px_cw4 (by simp only [List.mem_cons, List.not_mem_nil, or_false]; omega)
  rcases Nat.lt_or_ge m 96 with h5 | h5
  · exact px_cw_in px_cw5 (by simp only [List.mem_cons, List.not_mem_nil, or_false]; omega)
  rcases Nat.lt_or_ge m 112 with h6 | h6
  · exact px_cw_in px_cw6 (by simp only [List.mem_cons, List.not_mem_nil, or_false]; omega)
  rcases Nat.lt_or_ge m 128 with h7 | h7
  · exact px_cw_in px_cw7 (by simp only [List.mem_cons, List.not_mem_nil, or_false]; omega)
  rcases Nat.lt_or_ge m 144 with h8 | h8
  · exact px_cw_in px_cw8 (by simp only [List.mem_cons, List.not_mem_nil, or_false]; omega)
  rcases Nat.lt_or_ge m 160 with h9 | h9
  · exact px_cw_in px_cw9 (by simp only [List.mem_cons, List.not_mem_nil, or_false]; omega)
  rcases Nat.lt_or_ge m 176 with h10 | h10
  · exact px_cw_in px_cw10 (by simp only [List.mem_cons, List.not_mem_nil, or_false]; omega)
  rcases Nat.lt_or_ge m 192 with h11 | h11
  · exact px_cw_in px_cw11 (by simp only [List.mem_cons, List.not_mem_nil, or_false]; omega)
  rcases Nat.lt_or_ge m 208 with h12 | h12
  · exact px_cw_in px_cw12 (by simp only [List.mem_cons, List.not_mem_nil, or_false]; omega)
  rcases Nat.lt_or_ge m 224 with h13 | h13
  · exact px_cw_in px_cw13 (by simp only [List.mem_cons, List.not_mem_nil, or_false]; omega)
  rcases Nat.lt_or_ge m 240 with h14 | h14
  · exact px_cw_in px_cw14 (by simp only [List.mem_cons, List.not_mem_nil, or_false]; omega)
  exact px_cw_in px_cw15 (by simp only [List.mem_cons, List.not_mem_nil, or_false]; omega)
/-- what the words say of method m -/
theorem px_mok_of {m : Nat} (h : m < 243) : (Cond.code (px_y m) (px_by m) (px_ml m) (px_ret m) ∈ px_gt ∧ Cond.initialized (px_own (px_mo m)) ∈ px_gt) ∧
    ((px_kd m = 0 → Cond.static (px_y m) ∈ px_gt) ∧ (px_kd m = 1 → Cond.instanceMethod (px_y m) ∈ px_gt ∧ Cond.selects (px_own (px_mo m)) (px_y m) (px_y m) ∈ px_gt) ∧ (px_kd m = 2 → Cond.instanceMethod (px_y m) ∈ px_gt ∧ (px_y m).name = "<init>" ∧ px_ret m = none)) ∧
    (px_y m).cls = px_own (px_mo m) ∧ ((px_y m).cls ≠ "java/lang/invoke/MethodHandle" ∧ (px_y m).cls ≠ "java/lang/invoke/VarHandle") ∧ (parseMethodDescriptor (px_y m).desc).map (fun d => d.parameters.length) = some (px_na m - (bif px_kd m == 0 then 0 else 1)) ∧
    (px_kd m ≠ 0 → 1 ≤ px_na m) ∧ plainName (px_y m).cls = true ∧ px_ml m ≤ 60 ∧ (px_kd m ≠ 0 → px_mo m < 13) := by
  have hmem : ∃ q : Nat × Nat × Nat × Nat × Nat, q.1 = m ∧ px_mok q = true := by
    have h1 : m ∈ (px_mp0 ++ (px_mp1 ++ (px_mp2 ++ px_mp3))).map (fun q => q.1) := by rw [px_mn]; exact List.mem_range.mpr h
    obtain ⟨q, hq, hqm⟩ := List.mem_map.mp h1
    refine ⟨q, hqm, ?_⟩
    rcases List.mem_append.mp hq with h2 | h2
    · exact List.all_eq_true.mp px_mc0 q h2
    rcases List.mem_append.mp h2 with h2 | h2
    · exact List.all_eq_true.mp px_mc1 q h2
    rcases List.mem_append.mp h2 with h2 | h2
    · exact List.all_eq_true.mp px_mc2 q h2
    · exact List.all_eq_true.mp px_mc3 q h2
  obtain ⟨q, rfl, hq⟩ := hmem
  unfold px_mok at hq
  simp only [Bool.and_eq_true] at hq
  obtain ⟨⟨⟨⟨⟨⟨⟨⟨⟨a1, a2⟩, a3⟩, a4⟩, a5⟩, a6⟩, a7⟩, a8⟩, a9⟩, a10⟩ := hq
  refine ⟨⟨List.mem_filter.mpr ⟨px_cw_mem h, rfl⟩, px_at_mem a1⟩, ⟨fun h0 => ?_, fun h0 => ?_, fun h0 => ?_⟩, of_decide_eq_true a3, ⟨of_decide_eq_true a4, of_decide_eq_true a5⟩, of_decide_eq_true a6, fun h0 => ?_, a8, of_decide_eq_true a9, fun h0 => ?_⟩
  · rw [h0] at a2
    exact px_at_mem a2
  · rw [h0] at a2
    have a3' : (px_at q.2.2.2.1 (.instanceMethod (px_y q.1)) && px_at q.2.2.2.2 (.selects (px_own (px_mo q.1)) (px_y q.1) (px_y q.1))) = true := a2
    rw [Bool.and_eq_true] at a3'
    exact ⟨px_at_mem a3'.1, px_at_mem a3'.2⟩
  · rw [h0] at a2
    have a3' : (px_at q.2.2.2.1 (.instanceMethod (px_y q.1)) && decide ((px_y q.1).name = "<init>") && decide (px_ret q.1 = none)) = true := a2
    rw [Bool.and_eq_true, Bool.and_eq_true] at a3'
    exact ⟨px_at_mem a3'.1.1, of_decide_eq_true a3'.1.2, of_decide_eq_true a3'.2⟩
  · rw [show (px_kd q.1 == 0) = false from beq_eq_false_iff_ne.mpr h0] at a7
    exact of_decide_eq_true a7
  · rw [Bool.or_eq_true] at a10
    rcases a10 with a10 | a10
    · exact absurd (of_decide_eq_true a10) h0
    · exact of_decide_eq_true a10
theorem px_mlk_ok {l0 : Nat} {q : Nat × Nat × Nat × Nat} (h : px_mlk[l0]? = some q) : (q.2.2.2 = 0 → px_mlW q ∈ px_gt) ∧ (q.2.2.2 ≠ 0 → q ∈ px_mlk) := by
  refine ⟨fun h0 => ?_, fun _ => List.mem_of_getElem? h⟩
  have hl : l0 < px_mlk.length := (List.getElem?_eq_some_iff.mp h).1
  have hl2 : l0 < px_mlp2.length := by rw [← px_mlz]; exact hl
  have hz : (px_mlk.zip px_mlp2)[l0]? = some (q, px_mlp2[l0]) := by
    rw [List.getElem?_zip_eq_some]
    exact ⟨h, List.getElem?_eq_getElem hl2⟩
  have h1 := List.all_eq_true.mp px_mlc _ (List.mem_of_getElem? hz)
  dsimp only at h1
  rw [show (q.2.2.2 == 0) = true from beq_iff_eq.mpr h0] at h1
  exact px_at_mem h1
/-- the locals at a method's start -/
theorem px_xp_sl (G : PG) : ∀ as : List PV, (lg_sl (as.map (px_tr G))).length = (px_xp as).length ∧ ∀ (i : Nat) (v : PV), (px_xp as)[i]? = some v → v ≠ vJ → (lg_sl (as.map (px_tr G)))[i]? = some (.val (px_tr G v))
  | [] => ⟨rfl, fun i v h => by simp [px_xp] at h⟩
  | a :: as => by
    obtain ⟨h1, h2⟩ := px_xp_sl G as
    by_cases hc : px_cat a = 2
    · obtain ⟨x, rfl⟩ : ∃ x, a = .inr (.inl x) := by
        rcases a with x | x | r | u
        · cases hc
        · exact ⟨x, rfl⟩
        · cases hc
        · cases hc
      have e1 : lg_sl ((vL x :: as).map (px_tr G)) = .val (px_tr G (vL x)) :: .second :: lg_sl (as.map (px_tr G)) := rfl
      have e2 : px_xp (vL x :: as) = vL x :: vJ :: px_xp as := rfl
      show (lg_sl ((vL x :: as).map (px_tr G))).length = (px_xp (vL x :: as)).length ∧ ∀ (i : Nat) (v : PV), (px_xp (vL x :: as))[i]? = some v → v ≠ vJ → (lg_sl ((vL x :: as).map (px_tr G)))[i]? = some (.val (px_tr G v))
      rw [e1, e2]
      refine ⟨by simp [h1], fun i v hi hj => ?_⟩
      match i with
      | 0 => cases hi; rfl
      | 1 => cases hi; exact absurd rfl hj
      | i + 2 => exact h2 i v hi hj
    · have e1 : lg_sl ((a :: as).map (px_tr G)) = .val (px_tr G a) :: lg_sl (as.map (px_tr G)) := by
        have : ¬ (px_tr G a).category = 2 := by rw [px_tr_cat]; exact hc
        simp [lg_sl, this]
      have e2 : px_xp (a :: as) = a :: px_xp as := by
        rcases a with x | x | r | u
        · rfl
        · exact absurd rfl hc
        · rfl
        · rfl
      rw [e1, e2]
      refine ⟨by simp [h1], fun i v hi hj => ?_⟩
      match i with
      | 0 => cases hi; rfl
      | i + 1 => exact h2 i v hi hj
theorem px_xp_ok {as : List PV} (h : px_okl as) : px_okl (px_xp as) := by
  induction as with
  | nil => exact px_okl_nil
  | cons a as ih =>
    obtain ⟨h1, h2⟩ := px_okl_cons.mp h
    rcases a with x | x | r | u
    · exact px_okl_cons.mpr ⟨h1, ih h2⟩
    · exact px_okl_cons.mpr ⟨h1, px_okl_cons.mpr ⟨trivial, ih h2⟩⟩
    · exact px_okl_cons.mpr ⟨h1, ih h2⟩
    · exact px_okl_cons.mpr ⟨h1, ih h2⟩
theorem px_LR_entry (G : PG) {m : Nat} {as : List PV} (hok : px_okl as) (hlen : (px_xp as).length ≤ px_ml m) : px_LR G ((lg_sl (as.map (px_tr G)) ++ List.replicate (px_ml m - (lg_sl (as.map (px_tr G))).length) Slot.unset).toArray) (px_ent m as).2.1 (px_ml m) := by
  obtain ⟨h1, h2⟩ := px_xp_sl G as
  obtain ⟨g1, g2, -⟩ := lv_entry (as.map (px_tr G)) (n := px_ml m) (by rw [h1]; exact hlen)
  refine ⟨g1, g2, by simp [px_ent]; omega, fun v hv => ?_, fun n v hn hj => ?_⟩
  · rcases List.mem_append.mp hv with h | h
    · exact px_xp_ok hok v h
    · rw [(List.mem_replicate.mp h).2]; trivial
  · rw [List.getElem?_toArray]
    have hn' : (px_xp as ++ List.replicate (px_ml m - (px_xp as).length) vJ)[n]? = some v := hn
    rcases Nat.lt_or_ge n (px_xp as).length with hl | hl
    · rw [List.getElem?_append_left hl] at hn'
      rw [List.getElem?_append_left (by rw [h1]; exact hl)]
      exact h2 n v hn' hj
    · rw [List.getElem?_append_right hl] at hn'
      have := List.mem_of_getElem? hn'
      exact absurd (List.mem_replicate.mp this).2 hj
/-- what px_call asks -/
theorem px_call_of {m' kd pc : Nat} {pl st : List PV} {s s' : PM} {as : List PV} {f' : FR} (h : px_call m' kd pc pl st s = some (.inr (.inr (m', as, f', s')))) :
    s' = s ∧ ∃ rest : List PV, st = as.reverse ++ rest ∧ f' = (pc + 3, pl, rest) ∧ (rest.map px_cat).sum ≤ 8 ∧ m' < 243 ∧ (px_xp as).length ≤ px_ml m' ∧ as.length = px_na m' ∧ (kd ≠ 0 → ∃ (k : Nat) (as' : List PV), as = vR k :: as' ∧ s.1[k]? = some (.inl (px_mo m')) ∧ 3 ≤ k) := by
  unfold px_call at h
  split at h
  · rename_i hc
    obtain ⟨c1, c2, c3, c4⟩ := hc
    have c3' : m' < 243 := by
      have : px_nm = 244 := rfl
      omega
    have key : (st.take (px_na m')).reverse = as → f' = (pc + 3, pl, st.drop (px_na m')) → s' = s → (kd ≠ 0 → ∃ (k : Nat) (as' : List PV), as = vR k :: as' ∧ s.1[k]? = some (.inl (px_mo m')) ∧ 3 ≤ k) → (s' = s ∧ ∃ rest : List PV, st = as.reverse ++ rest ∧ f' = (pc + 3, pl, rest) ∧ (rest.map px_cat).sum ≤ 8 ∧ m' < 243 ∧ (px_xp as).length ≤ px_ml m' ∧ as.length = px_na m' ∧ (kd ≠ 0 → ∃ (k : Nat) (as' : List PV), as = vR k :: as' ∧ s.1[k]? = some (.inl (px_mo m')) ∧ 3 ≤ k)) := by
      intro e1 e2 e3 e4
      refine ⟨e3, st.drop (px_na m'), ?_, e2, c2, c3', by rw [← e1]; exact c4, ?_, e4⟩
      · rw [← e1, List.reverse_reverse, List.take_append_drop]
      · rw [← e1, List.length_reverse, List.length_take]; omega
    split at h
    · rename_i as0 _
      cases h
      exact key rfl rfl rfl (fun h => absurd rfl h)
    · rename_i kd0 k as0 hrev
      split at h
      · rename_i hk
        cases h
        exact key hrev rfl rfl (fun _ => ⟨k, as0, rfl, hk.1, hk.2⟩)
      · cases h
    · cases h
  · cases h
/-- a method's contract out of its frames -/
theorem px_met_of {l : Launch} {G : PG} {L : Nat} {xs alw : Nat → Int32} {SF : State → Heap → Prop} {d m : Nat} {as : List PV} {s s' : PM} {v : Option PV} (hm : m < 243) (hok : px_okl as) (hlen : (px_xp as).length ≤ px_ml m)
    (hsim : ∀ (p : Program) (e : Env) (R : Room) (s0 : State) (mi : MethodId) (args : Array Value) (below : List Frame) (meth : Method) (c : Code) (Q : State → Prop) (e0 t0 : Nat), px_CX p s0 mi args meth c m G L xs alw SF → d + 10 ≤ R.frames → (d + 10) * 100 ≤ R.locals → e0 ≤ s.1.length → t0 ≤ s.2.2.2.2 → s'.1.length - e0 ≤ R.cells → s'.2.2.2.2 - t0 ≤ R.slots →
      (∀ (pc' : Nat) (pl' : List PV), px_RET m v pc' → px_AT p l e R s0 mi args below meth c Q G L xs alw (px_ml m) e0 t0 (pc', pl', v.toList) s') → px_AT p l e R s0 mi args below meth c Q G L xs alw (px_ml m) e0 t0 (px_ent m as) s) : px_MET l G L xs alw SF d m as s v s' := by
  obtain ⟨⟨w1, w2⟩, ⟨w3, w4, w5⟩, w6, w7, w8, w9, w10, w11, w12⟩ := px_mok_of hm
  refine Met.ofW (cc := px_by m) (maxL := px_ml m) (ret := px_ret m) w10 rfl ?_
  intro p e s0 mi args below meth c s₁ B hml hv
  obtain ⟨rfl, hE, hrel⟩ := hv
  have hts0 := atoms_spec (ws := px_wsm m) B.pre
  have hts : ∀ w ∈ px_gt, w.before (as.map (px_tr G)).toArray s0 = true := fun w hw => hts0 w (List.mem_cons_of_mem _ hw)
  have hown : s0.vm.findClass (px_own (px_mo m)) = some mi.cls := by rw [← w6]; exact findClass_of_methodNamed B.named
  have hC : px_CX p s0 mi (as.map (px_tr G)).toArray meth c m G L xs alw SF := ⟨B.exec, B.bytes, hml, hown, hts, fun h2 => by rw [(name_of_methodNamed B.named B.method).1]; exact (w5 h2).2.1, hE⟩
  have hlocks := B.notSynchronized
  rw [lg_entry_eq]
  have hLR := px_LR_entry G (m := m) hok hlen
  have hAT := hsim p e (px_rm d (s'.1.length - s.1.length) (s'.2.2.2.2 - s.2.2.2.2)) s0 mi (as.map (px_tr G)).toArray below meth c (MQ below (px_post G L xs alw v s') (as.map (px_tr G)).toArray s0 (s'.1.length - s.1.length) (s'.2.2.2.2 - s.2.2.2.2) (px_A G)) s.1.length s.2.2.2.2 hC (Nat.le_refl _) (Nat.le_refl _) (Nat.le_refl _) (Nat.le_refl _) (Nat.le_refl _) (Nat.le_refl _) (fun pc' pl' hret H locs ls hLR2 hok2 hrel2 hS => by
    have hq : ∀ t : State, t.heap = H → s0.WarmedH t.vm → px_post G L xs alw v s' (as.map (px_tr G)).toArray s0 (.returned (v.map (px_tr G))) t := fun t ht _ => ⟨rfl, by rw [ht]; exact hrel2, hS.F ht, hok2⟩
    rcases v with _ | x | x | r | u
    · exact W.vret B.exec B.bytes (by rw [B.returns]; exact hret.2) hq hS.2.2 hret.1 hlocks
    · rcases hret.2 with h3 | ⟨h3, h4⟩
      · exact W.iret B.exec B.bytes (by rw [B.returns]; exact h3) hq hS.2.2 hret.1 hlocks
      · exact W.zret (ty := .boolean) B.exec B.bytes (by rw [B.returns]; exact h3) (by rcases h4 with rfl | rfl <;> rfl) hq hS.2.2 hret.1 hlocks
    · exact W.lret B.exec B.bytes (by rw [B.returns]; exact hret.2) hq hS.2.2 hret.1 hlocks
    · obtain ⟨h3, C, h4⟩ := hret
      exact W.aret (rt := .object C) B.exec B.bytes (by rw [B.returns]; exact h4) (Or.inl ⟨C, rfl⟩) (by cases r with | none => exact Or.inl rfl | some k => exact Or.inr ⟨_, rfl⟩) hq hS.2.2 h3 hlocks
    · exact hret.elim)
  have h9 := hAT s0.heap [] _ hLR px_okl_nil hrel va_S.rf
  rw [Nat.sub_self, Nat.sub_self] at h9
  exact h9
