/-! One step of the pure machine, no call and no end, is one of the real machine's. -/
def px_rmS : Room := { frames := 6, cells := 0, slots := 0, locals := 600 }
def px_preS (G : PG) (L : Nat) (xs alw : Nat → Int32) (SF : State → Heap → Prop) (as : List Value) : Array Value → State → Prop := fun a U => a = (Value.ref G.2.2.2.2.1 :: as).toArray ∧ px_ENV G L xs alw SF U U.heap
def px_postS (v : Int) : Array Value → State → Outcome → State → Prop := fun _ st o t => o = .returned (some (.int (Int32.ofInt v))) ∧ t.heap = st.heap
def px_wq3 : List Cond := .code (px_iy 3) prog_19_method_54_code 1 (some .int) :: px_gt
def px_wq4 : List Cond := .code (px_iy 4) prog_19_method_56_code 2 (some .char) :: px_gt
/-- String's own: length and charAt of WORDS (proved apart) -/
def px_STR (l : Launch) (G : PG) (L : Nat) (xs alw : Nat → Int32) (SF : State → Heap → Prop) : Prop :=
  Met l (px_iy 3) px_wq3 px_rmS (px_preS G L xs alw SF []) (px_postS (px_words.length : Nat)) 0 0 (fun _ => False) ∧
  ∀ x : Int, 0 ≤ x → x < (px_words.length : Nat) → Met l (px_iy 4) px_wq4 px_rmS (px_preS G L xs alw SF [.int (Int32.ofInt x)]) (px_postS ((px_words.getD x.toNat 0 : Nat) : Int)) 0 0 (fun _ => False)
def px_SFok (G : PG) (SF : State → Heap → Prop) : Prop :=
  (∀ (U : State) (H H1 : Heap), SF U H → (∀ a : Nat, a < H.size → ¬ px_A G a → H1[a]? = H[a]?) → SF U H1) ∧ (∀ (u U : State) (H : Heap), u.WarmedH U.vm → SF u H → SF U H) ∧
  (∀ (U : State) (H : Heap), SF U H → ∃ cell : Cell, H[G.2.2.2.2.1]? = some cell ∧ cell.vm.isStatics = false ∧ U.vm.findClass "java/lang/String" = some cell.cls)
theorem px_goodIn {ws : List Cond} (h : ∀ w ∈ ws, w ∈ px_gt) : GoodIn px_gt ws := fun w hw => ⟨h w hw, px_gt_good (h w hw)⟩
theorem px_qw0 : Cond.instanceMethod (px_iy 3) ∈ px_gt := px_at_mem (p := 726) (by decide +kernel)
theorem px_qw1 : Cond.selects "java/lang/String" (px_iy 3) (px_iy 3) ∈ px_gt := px_at_mem (p := 727) (by decide +kernel)
theorem px_qw2 : Cond.initialized "java/lang/String" ∈ px_gt := px_at_mem (p := 104) (by decide +kernel)
theorem px_qw3 : Cond.code (px_iy 3) prog_19_method_54_code 1 (some .int) ∈ px_gt := px_at_mem (p := 728) (by decide +kernel)
theorem px_qw4 : Cond.instanceMethod (px_iy 4) ∈ px_gt := px_at_mem (p := 736) (by decide +kernel)
theorem px_qw5 : Cond.selects "java/lang/String" (px_iy 4) (px_iy 4) ∈ px_gt := px_at_mem (p := 737) (by decide +kernel)
theorem px_qw6 : Cond.code (px_iy 4) prog_19_method_56_code 2 (some .char) ∈ px_gt := px_at_mem (p := 738) (by decide +kernel)
section PX5
variable {p : Program} {l : Launch} {e : Env} {R : Room} {s0 : State} {mi : MethodId} {args : Array Value} {below : List Frame} {meth : Method} {c : Code} {Q : State → Prop}
variable {G : PG} {L : Nat} {xs alw : Nat → Int32} {SF : State → Heap → Prop} {e0 t0 : Nat} {m nL pc : Nat} {pl st : List PV} {s s' : PM} {f' : FR}
/-- what a call sees of the tables at its own start -/
theorem px_ENV_call (hSF : px_SFok G SF) {H : Heap} {locs : List Loc} (hE : px_ENV G L xs alw SF s0 s0.heap) (hS : va_S (px_A G) s0.heap H locs) {U : State} (hU : U.heap = H) (hW : s0.WarmedH U.vm) : px_ENV G L xs alw SF U U.heap := by
  rw [hU]
  exact px_ENV_warm hSF.2.1 hW (px_ENV_kept hSF.1 hE hS.1 (fun a h1 h2 => hS.2.1 a h1 h2))
theorem px_o_str {y : MethodName} {bytes : ByteArray} {ml i n : Nat} {ret : Option FieldType} {As : List Value} {v : Int} (hC : px_CX p s0 mi args meth c m G L xs alw SF) (hSF : px_SFok G SF) (hnL : nL = px_ml m) (hd : decode (px_by m) pc = .ok (.invokevirtual i, 3)) (hw : Cond.methodLink (px_own (px_mo m)) i y ∈ px_gt)
    (hin : Cond.instanceMethod y ∈ px_gt) (hse : Cond.selects "java/lang/String" y y ∈ px_gt) (hco : Cond.code y bytes ml ret ∈ px_gt) (hy : y.cls = "java/lang/String" ∧ (parseMethodDescriptor y.desc).map (fun d => d.parameters.length) = some n) (hml : ml ≤ 10)
    (hM : Met l y (.code y bytes ml ret :: px_gt) px_rmS (px_preS G L xs alw SF As) (px_postS v) 0 0 (fun _ => False)) (hn : As.length = n) (hRf : 10 ≤ R.frames) (hRl : 1000 ≤ R.locals)
    {r : List PV} (hcat : (r.map px_cat).sum ≤ 8) (hokv : px_r32 v) {H : Heap} {locs : List Loc} {ls : Array Slot} (hLR : px_LR G ls pl nL) (hok : px_okl r) (hrel : px_rel G L xs alw s H) (hS : va_S (px_A G) s0.heap H locs) (hc1 : s.1.length - e0 ≤ R.cells) (hc2 : s.2.2.2.2 - t0 ≤ R.slots)
    (k : px_AT p l e R s0 mi args below meth c Q G L xs alw nL e0 t0 (pc + 3, pl, vI v :: r) s) : W p l e R s0 mi args below meth c H locs (s.1.length - e0) (s.2.2.2.2 - t0) Q (F0 mi pc ls (As.reverse ++ .ref G.2.2.2.2.1 :: r.map (px_tr G))) := by
  obtain ⟨hx, hb, hmlc, hown, hts, hini, hE⟩ := hC
  have hcw := cwV (R := R) (s := s0) (args := args) (own := px_own (px_mo m)) (C := "java/lang/String") (index := i) (y := y) (bytes := bytes) (maxL := ml) (ret := ret) (rm := px_rmS) (mc := 0) (ms := 0) n hts (px_goodIn (ws := wsV (px_own (px_mo m)) i "java/lang/String" y (.code y bytes ml ret :: px_gt)) (by
      intro w hw'
      unfold wsV at hw'
      rcases List.mem_append.mp hw' with h | h
      · simp only [List.mem_cons, List.not_mem_nil, or_false] at h
        rcases h with rfl | rfl | rfl | rfl
        · exact hw
        · exact hin
        · exact hse
        · exact px_qw2
      · rcases List.mem_cons.mp h with rfl | h
        · exact hco
        · exact h)) rfl rfl rfl ⟨hy.1, by rw [hy.1]; decide, by rw [hy.1]; decide, hy.2⟩ ⟨by show 6 + 1 ≤ _; omega, by show 8 + (ml + 11) + 600 ≤ _; omega⟩
  obtain ⟨cell, c1, c2, c3⟩ := hSF.2.2 s0 H ((px_ENV_kept hSF.1 hE hS.1 (fun a h1 h2 => hS.2.1 a h1 h2)).2.2.2.2.2.2.2.1)
  have hrun := va_runV (p := p) (l := l) (e := e) (R := R) (s := s0) (m := mi) (args := args) (below := below) (meth := meth) (c := c) (H := H) (locs := locs) (cells := s.1.length - e0) (slots := s.2.2.2.2 - t0) (nL := nL) (b := G.2.2.2.2.1) (As := As) (rest := r.map (px_tr G)) (g := F0 mi pc ls (As.reverse ++ .ref G.2.2.2.2.1 :: r.map (px_tr G)))
    ⟨hx, hb, by rw [hmlc, hnL], hown, hts⟩ hM hcw ⟨fun a U g mk q => by
      obtain ⟨q1, q2⟩ := q
      exact ⟨q1, px_ENV_warm (u := U) (U := U.calling g mk a) hSF.2.1 (State.WarmedH.refl U) q2⟩, ⟨cell, c1, c2, c3⟩, fun U hU hW => ⟨rfl, px_ENV_call hSF hE hS hU hW⟩⟩ rfl hn hLR.1 rfl (lv_room (by rw [px_catsum]; exact hcat)) hd ⟨by omega, by omega⟩
  intro T hT X
  obtain ⟨v9, st₀, t, T', L9, h0, X', hL, e1, e2, ⟨hv, hz⟩, stp⟩ := hrun T hT X
  have hv9 : v9 = some (.int (Int32.ofInt v)) := Outcome.returned.inj hv
  subst hv9
  have hL9 : L9 = [] := List.eq_nil_iff_forall_not_mem.mpr (fun q hq => hL q hq)
  subst hL9
  rw [List.append_nil] at X'
  have hT' : T'.heap = H := by rw [e1, hz, h0]
  obtain ⟨t2, a1, b1⟩ := k H locs ls hLR (px_okl_cons.mpr ⟨hokv, hok⟩) hrel hS T' hT' X'
  exact ⟨t2, stp t2 a1, b1⟩
end PX5
