/-! Every instruction of the pure machine. -/
theorem px_swf_lookup (dflt : Int) (pc dt : Nat) (x : Int) : ∀ (ps : List (Int × Int)) (ts : List Nat), (pc : Int) + dflt = (dt : Int) → ps.map (fun f => (pc : Int) + f.2) = ts.map Int.ofNat → ∃ tgt : Nat, (pc : Int) + Op.lookupswitch.offset ps dflt x = (tgt : Int) ∧ (match (ps.zip ts).find? (fun q => decide (q.1.1 = x)) with | some q => q.2 | none => dt) = tgt
  | [], ts, h1, h2 => by
    cases ts with
    | nil => exact ⟨dt, h1, rfl⟩
    | cons t ts => simp at h2
  | (a, o) :: ps, ts, h1, h2 => by
    cases ts with
    | nil => simp at h2
    | cons t ts =>
      rw [List.map_cons, List.map_cons] at h2
      obtain ⟨h3, h4⟩ := List.cons.inj h2
      rw [Op.lookupswitch.offset_cons, List.zip_cons_cons, List.find?_cons]
      by_cases hax : a = x
      · refine ⟨t, ?_, ?_⟩
        · rw [if_pos (by first | exact hax | exact hax.symm | simp [hax])]
          exact h3
        · simp [hax]
      · obtain ⟨tgt, g1, g2⟩ := px_swf_lookup dflt pc dt x ps ts h1 h4
        refine ⟨tgt, ?_, ?_⟩
        · rw [if_neg (by first | exact hax | exact fun q => hax q.symm | simp [hax])]
          exact g1
        · simp only [hax, decide_false]
          exact g2
theorem px_call_no {m' kd pc : Nat} {pl st : List PV} {s s' : PM} (f' : FR) : ¬ px_call m' kd pc pl st s = some (.inl (f', s')) := by
  intro h
  unfold px_call at h
  split at h
  · split at h
    · cases h
    · split at h <;> cases h
    · cases h
  · cases h
theorem px_wordr (i : Nat) : px_r32 ((px_words.getD i 0 : Nat) : Int) := by
  rcases Nat.lt_or_ge i px_words.length with h | h
  · have h1 : ∀ j, j < px_words.length → px_words.getD j 0 < 256 := by decide +kernel
    have := h1 i h
    exact ⟨by omega, by omega⟩
  · rw [List.getD_eq_getElem?_getD, List.getElem?_eq_none h]
    exact ⟨by decide, by decide⟩
section PX6
variable {p : Program} {l : Launch} {e : Env} {R : Room} {s0 : State} {mi : MethodId} {args : Array Value} {below : List Frame} {meth : Method} {c : Code} {Q : State → Prop}
variable {G : PG} {L : Nat} {xs alw : Nat → Int32} {SF : State → Heap → Prop} {e0 t0 : Nat} {m pc : Nat} {pl st : List PV} {s s' : PM} {f' : FR}
theorem px_ilk_of {l0 i k0 : Nat} (hlk : (match px_ilk[l0]? with | some (o, i', k) => o == px_mo m && i' == i && k == k0 | none => false) = true) : Cond.methodLink (px_own (px_mo m)) i (px_iy k0) ∈ px_gt := by
  cases hq : px_ilk[l0]? with
  | none => rw [hq] at hlk; cases hlk
  | some q =>
    obtain ⟨o, i', k⟩ := q
    rw [hq] at hlk
    simp only [Bool.and_eq_true, beq_iff_eq] at hlk
    obtain ⟨⟨rfl, rfl⟩, rfl⟩ := hlk
    exact px_ilk_ok hq
theorem px_clk_of {l0 i ci : Nat} (hlk : (match px_clk[l0]? with | some (o, i', c') => o == px_mo m && i' == i && c' == ci | none => false) = true) : Cond.classLink (px_own (px_mo m)) i (px_own ci) ∈ px_gt ∧ ci < 13 := by
  cases hq : px_clk[l0]? with
  | none => rw [hq] at hlk; cases hlk
  | some q =>
    obtain ⟨o, i', k⟩ := q
    rw [hq] at hlk
    simp only [Bool.and_eq_true, beq_iff_eq] at hlk
    obtain ⟨⟨rfl, rfl⟩, rfl⟩ := hlk
    exact px_clk_ok hq
theorem px_klk_i {l0 i : Nat} {v : Int} (hlk : (match px_klk[l0]? with | some (o, i', k, w) => o == px_mo m && i' == i && k == 0 && w == v | none => false) = true) : Cond.constant (px_own (px_mo m)) i (Int32.ofInt v) ∈ px_gt ∧ px_r32 v := by
  cases hq : px_klk[l0]? with
  | none => rw [hq] at hlk; cases hlk
  | some q =>
    obtain ⟨o, i', k, w⟩ := q
    rw [hq] at hlk
    simp only [Bool.and_eq_true, beq_iff_eq] at hlk
    obtain ⟨⟨⟨rfl, rfl⟩, rfl⟩, rfl⟩ := hlk
    obtain ⟨h1, h2, -⟩ := px_klk_ok hq
    exact ⟨h1, h2 rfl⟩
theorem px_klk_l {l0 i : Nat} {v : Int} (hlk : (match px_klk[l0]? with | some (o, i', k, w) => o == px_mo m && i' == i && k == 1 && w == v | none => false) = true) : Cond.constantLong (px_own (px_mo m)) i (Int64.ofInt v) ∈ px_gt ∧ px_r64 v := by
  cases hq : px_klk[l0]? with
  | none => rw [hq] at hlk; cases hlk
  | some q =>
    obtain ⟨o, i', k, w⟩ := q
    rw [hq] at hlk
    simp only [Bool.and_eq_true, beq_iff_eq] at hlk
    obtain ⟨⟨⟨rfl, rfl⟩, rfl⟩, rfl⟩ := hlk
    obtain ⟨h1, -, h2⟩ := px_klk_ok hq
    exact ⟨h1, h2 Nat.one_ne_zero⟩
set_option maxHeartbeats 4000000 in
/-- an instruction that is no call and no end -/
theorem px_step_ok (hC : px_CX p s0 mi args meth c m G L xs alw SF) (hSF : px_SFok G SF) (hST : px_STR l G L xs alw SF) (hRf : 10 ≤ R.frames) (hRl : 1000 ≤ R.locals) (he : e0 ≤ s.1.length) (ht : t0 ≤ s.2.2.2.2) (hR0 : s.1.length - e0 ≤ R.cells) (hR9 : s.2.2.2.2 - t0 ≤ R.slots) (hR1 : s'.1.length - e0 ≤ R.cells) (hR2 : s'.2.2.2.2 - t0 ≤ R.slots)
    (h : px_stp m (pc, pl, st) s = some (.inl (f', s'))) (k : px_AT p l e R s0 mi args below meth c Q G L xs alw (px_ml m) e0 t0 f' s') : px_AT p l e R s0 mi args below meth c Q G L xs alw (px_ml m) e0 t0 (pc, pl, st) s := by
  unfold px_stp at h
  dsimp only at h
  obtain ⟨ee, hcod⟩ : ∃ ee, px_cod m pc = some ee := by
    cases hq : px_cod m pc with
    | none => rw [hq] at h; cases h
    | some ee => exact ⟨ee, rfl⟩
  rw [hcod] at h
  dsimp only at h
  obtain ⟨hd, hlk, hlen⟩ := px_cod_ok hcod
  obtain ⟨ins, len, ops, val⟩ := ee
  dsimp only at hd hlk hlen
  have hC' := hC
  obtain ⟨hx, hb, hml, hown, hts, hini, hE⟩ := hC'
  cases ins with
  | aload n =>
    have hl := hlen rfl
    subst hl
    refine px_o_ald (len := 2) (i := n) (fun {H locs cells slots ls rest x} g1 g2 => ?_) h k
    cases x with
    | none => exact lv_aloadN hx hb hd g1 g2
    | some x => exact lv_aload hx hb hd g1 g2
  | aload_n n =>
    have hl := hlen rfl
    subst hl
    refine px_o_ald (len := 1) (i := n.val) (fun {H locs cells slots ls rest x} g1 g2 => ?_) h k
    cases x with
    | none => exact lv_aload_nN hx hb hd rfl g1 g2
    | some x => exact lv_aload_n hx hb hd rfl g1 g2
  | iload n =>
    have hl := hlen rfl
    subst hl
    exact px_o_ld (len := 2) (i := n) (fun {H locs cells slots ls rest x} g1 g2 => lv_iload hx hb hd g1 g2) h k
  | iload_n n =>
    have hl := hlen rfl
    subst hl
    exact px_o_ld (len := 1) (i := n.val) (fun {H locs cells slots ls rest x} g1 g2 => lv_iload_n hx hb hd rfl g1 g2) h k
  | lload n =>
    have hl := hlen rfl
    subst hl
    exact px_o_lld (len := 2) (i := n) (fun {H locs cells slots ls rest x} g1 g2 => lv_lload hx hb hd g1 g2) h k
  | lload_n n =>
    have hl := hlen rfl
    subst hl
    exact px_o_lld (len := 1) (i := n.val) (fun {H locs cells slots ls rest x} g1 g2 => lv_lload_n hx hb hd rfl g1 g2) h k
  | istore n =>
    have hl := hlen rfl
    subst hl
    exact px_o_ist (len := 2) (i := n) (fun {H locs cells slots ls rest x lv} g1 g2 g3 => lv_istore hx hb hd g1 g2 rfl g3) h k
  | istore_n n =>
    have hl := hlen rfl
    subst hl
    exact px_o_ist (len := 1) (i := n.val) (fun {H locs cells slots ls rest x lv} g1 g2 g3 => lv_istore_n hx hb hd rfl g1 g2 rfl g3) h k
  | lstore n =>
    have hl := hlen rfl
    subst hl
    exact px_o_lst (len := 2) (i := n) (fun {H locs cells slots ls rest x lv} g1 g2 g3 => lv_lstore hx hb hd g1 g2 rfl g3) h k
  | lstore_n n =>
    have hl := hlen rfl
    subst hl
    exact px_o_lst (len := 1) (i := n.val) (fun {H locs cells slots ls rest x lv} g1 g2 g3 => lv_lstore_n hx hb hd rfl g1 g2 rfl g3) h k
  | astore n =>
    have hl := hlen rfl
    subst hl
    refine px_o_ast (len := 2) (i := n) (fun {H locs cells slots ls rest x lv} g1 g2 g3 => ?_) h k
    cases x with
    | none => exact lv_astoreN hx hb hd g1 g2 rfl g3
    | some x => exact lv_astore hx hb hd g1 g2 rfl g3
  | astore_n n =>
    have hl := hlen rfl
    subst hl
    refine px_o_ast (len := 1) (i := n.val) (fun {H locs cells slots ls rest x lv} g1 g2 g3 => ?_) h k
    cases x with
    | none => exact lv_astore_nN hx hb hd rfl g1 g2 rfl g3
    | some x => exact lv_astore_n hx hb hd rfl g1 g2 rfl g3
  | iconst v =>
    have hl := hlen rfl
    subst hl
    have h := (show (if -1 ≤ v ∧ v ≤ 5 then px_nx (pc + 1) pl (vI v :: st) s else none) = some (.inl (f', s')) from h)
    split at h
    · rename_i hv
      exact px_o_c (v := vI v) ⟨by omega, by omega⟩ (fun {H locs cells slots ls rest} g => lv_iconst hx hb hd rfl g) h k
    · cases h
  | lconst v =>
    have hl := hlen rfl
    subst hl
    have hv : ((v : Nat) : Int) < 2 := by have := v.isLt; omega
    exact px_o_c (v := vL ((v : Nat) : Int)) ⟨by omega, by omega⟩ (fun {H locs cells slots ls rest} g => lv_lconst hx hb hd rfl g) h k
  | bipush v =>
    have hl := hlen rfl
    subst hl
    have h := (show (if -128 ≤ v ∧ v < 128 then px_nx (pc + 2) pl (vI v :: st) s else none) = some (.inl (f', s')) from h)
    split at h
    · rename_i hv
      refine px_o_c (v := vI v) ⟨by omega, by omega⟩ (fun {H locs cells slots ls rest} g => lv_bipush hx hb hd ?_ g) h k
      rw [← Int32.toInt_inj, Int8.toInt_toInt32, Int8.toInt_ofInt_of_le (by omega) (by omega), px_t32 ⟨by omega, by omega⟩]
    · cases h
  | sipush v =>
    have hl := hlen rfl
    subst hl
    have h := (show (if -32768 ≤ v ∧ v < 32768 then px_nx (pc + 3) pl (vI v :: st) s else none) = some (.inl (f', s')) from h)
    split at h
    · rename_i hv
      refine px_o_c (v := vI v) ⟨by omega, by omega⟩ (fun {H locs cells slots ls rest} g => lv_sipush hx hb hd ?_ g) h k
      rw [← Int32.toInt_inj, Int16.toInt_toInt32, Int16.toInt_ofInt_of_le (by omega) (by omega), px_t32 ⟨by omega, by omega⟩]
    · cases h
  | aconst_null =>
    have hl := hlen rfl
    subst hl
    exact px_o_c (v := vN) trivial (fun {H locs cells slots ls rest} g => lv_null hx hb hd g) h k
  | iinc n v =>
    have hl := hlen rfl
    subst hl
    unfold px_ex at h
    dsimp only at h
    split at h
    · rename_i x hx1
      split at h
      · rename_i hv
        exact px_o_iinc hx hb hd hv hx1 h k
      · cases h
    · cases h
  | iadd =>
    have hl := hlen rfl
    subst hl
    exact px_o_i2 (g := fun x y => px_w32 (x + y)) (g' := fun x y => x + y) (fun x y _ _ => ⟨by rw [px_o32, Int32.ofInt_add], px_w32_r _⟩) (fun {H locs cells slots ls rest x y} g => lv_iadd hx hb hd g) h k
  | isub =>
    have hl := hlen rfl
    subst hl
    exact px_o_i2 (g := fun x y => px_w32 (x - y)) (g' := fun x y => x - y) (fun x y _ _ => ⟨by rw [px_o32, Int32.ofInt_sub], px_w32_r _⟩) (fun {H locs cells slots ls rest x y} g => lv_isub hx hb hd g) h k
  | imul =>
    have hl := hlen rfl
    subst hl
    exact px_o_i2 (g := fun x y => px_w32 (x * y)) (g' := fun x y => x * y) (fun x y _ _ => ⟨by rw [px_o32, Int32.ofInt_mul], px_w32_r _⟩) (fun {H locs cells slots ls rest x y} g => lv_imul hx hb hd g) h k
  | iand =>
    have hl := hlen rfl
    subst hl
    exact px_o_i2 (g := px_and) (g' := fun x y => x &&& y) (fun x y _ _ => ⟨by unfold px_and; rw [Int32.ofInt_toInt], px_ir32 _⟩) (fun {H locs cells slots ls rest x y} g => lv_iand hx hb hd g) h k
  | ior =>
    have hl := hlen rfl
    subst hl
    exact px_o_i2 (g := px_or) (g' := fun x y => x ||| y) (fun x y _ _ => ⟨by unfold px_or; rw [Int32.ofInt_toInt], px_ir32 _⟩) (fun {H locs cells slots ls rest x y} g => lv_ior hx hb hd g) h k
  | ixor =>
    have hl := hlen rfl
    subst hl
    exact px_o_i2 (g := px_xor) (g' := fun x y => x ^^^ y) (fun x y _ _ => ⟨by unfold px_xor; rw [Int32.ofInt_toInt], px_ir32 _⟩) (fun {H locs cells slots ls rest x y} g => lv_ixor hx hb hd g) h k
  | ishl =>
    have hl := hlen rfl
    subst hl
    exact px_o_i2 (g := px_shl) (g' := fun x y => x <<< (y &&& 31)) (fun x y _ _ => ⟨by unfold px_shl; rw [Int32.ofInt_toInt], px_ir32 _⟩) (fun {H locs cells slots ls rest x y} g => lv_ishl hx hb hd g) h k
  | ishr =>
    have hl := hlen rfl
    subst hl
    exact px_o_i2 (g := px_shr) (g' := fun x y => x >>> (y &&& 31)) (fun x y _ _ => ⟨by unfold px_shr; rw [Int32.ofInt_toInt], px_ir32 _⟩) (fun {H locs cells slots ls rest x y} g => lv_ishr hx hb hd g) h k
  | iushr =>
    have hl := hlen rfl
    subst hl
    exact px_o_i2 (g := px_ushr) (g' := fun x y => (x.toUInt32 >>> (y.toUInt32 &&& Int32.toUInt32 31)).toInt32) (fun x y _ _ => ⟨by unfold px_ushr; rw [Int32.ofInt_toInt], px_ir32 _⟩) (fun {H locs cells slots ls rest x y} g => lv_iushr hx hb hd rfl g) h k
  | idiv =>
    have hl := hlen rfl
    subst hl
    unfold px_ex at h
    dsimp only at h
    split at h
    · rename_i y x r
      split at h
      · cases h
      · rename_i hy
        refine px_o_2 (v := vI y) (u := vI x) (w := vI (px_w32 (x.tdiv y))) rfl (fun h1 h2 => px_w32_r _) (fun {H locs cells slots ls rest} h1 h2 g => ?_) h k
        exact lv_idiv hx hb hd (fun q => hy ((px_inj32 h1 px_0r).mp q)) (by rw [px_div32 h2 h1, ← px_o32]; exact g)
    · cases h
  | irem =>
    have hl := hlen rfl
    subst hl
    unfold px_ex at h
    dsimp only at h
    split at h
    · rename_i y x r
      split at h
      · cases h
      · rename_i hy
        refine px_o_2 (v := vI y) (u := vI x) (w := vI (x.tmod y)) rfl (fun h1 h2 => px_remr h2 hy) (fun {H locs cells slots ls rest} h1 h2 g => ?_) h k
        exact lv_irem hx hb hd (fun q => hy ((px_inj32 h1 px_0r).mp q)) (by rw [px_rem32 h2 h1]; exact g)
    · cases h
  | ldiv =>
    have hl := hlen rfl
    subst hl
    unfold px_ex at h
    dsimp only at h
    split at h
    · rename_i y x r
      split at h
      · cases h
      · rename_i hy
        refine px_o_2 (v := vL y) (u := vL x) (w := vL (px_w64 (x.tdiv y))) rfl (fun h1 h2 => px_w64_r _) (fun {H locs cells slots ls rest} h1 h2 g => ?_) h k
        exact lv_ldiv hx hb hd (fun q => hy ((px_inj64 h1 ⟨by omega, by omega⟩).mp q)) (by rw [px_div64 h2 h1, ← px_o64]; exact g)
    · cases h
  | ineg =>
    have hl := hlen rfl
    subst hl
    unfold px_ex at h
    dsimp only at h
    split at h
    · rename_i x r
      refine px_o_1 (v := vI x) (w := vI (px_w32 (-x))) rfl (fun h1 => px_w32_r _) (fun {H locs cells slots ls rest} h1 g => ?_) h k
      exact lv_ineg hx hb hd (by rw [← Int32.ofInt_neg, ← px_o32]; exact g)
    · cases h
  | lneg =>
    have hl := hlen rfl
    subst hl
    unfold px_ex at h
    dsimp only at h
    split at h
    · rename_i x r
      refine px_o_1 (v := vL x) (w := vL (px_w64 (-x))) rfl (fun h1 => px_w64_r _) (fun {H locs cells slots ls rest} h1 g => ?_) h k
      exact lv_lneg hx hb hd (by rw [← Int64.ofInt_neg, ← px_o64]; exact g)
    · cases h
  | i2l =>
    have hl := hlen rfl
    subst hl
    unfold px_ex at h
    dsimp only at h
    split at h
    · rename_i x r
      refine px_o_1 (v := vI x) (w := vL x) rfl (fun h1 => ⟨by have := h1.1; omega, by have := h1.2; omega⟩) (fun {H locs cells slots ls rest} h1 g => ?_) h k
      exact lv_i2l hx hb hd (by rw [← Int64.toInt_inj, Int32.toInt_toInt64, px_t32 h1, px_t64 ⟨by have := h1.1; omega, by have := h1.2; omega⟩]) g
    · cases h
  | l2i =>
    have hl := hlen rfl
    subst hl
    unfold px_ex at h
    dsimp only at h
    split at h
    · rename_i x r
      refine px_o_1 (v := vL x) (w := vI (px_w32 x)) rfl (fun h1 => px_w32_r _) (fun {H locs cells slots ls rest} h1 g => ?_) h k
      exact lv_l2i hx hb hd (by rw [px_o32, ← Int32.toInt_inj, Int64.toInt_toInt32, px_t64 h1, Int32.toInt_ofInt]) g
    · cases h
  | i2b =>
    have hl := hlen rfl
    subst hl
    unfold px_ex at h
    dsimp only at h
    split at h
    · rename_i x r
      refine px_o_1 (v := vI x) (w := vI (px_i2b x)) rfl (fun h1 => px_ir32 _) (fun {H locs cells slots ls rest} h1 g => ?_) h k
      exact lv_i2b hx hb hd (px_i2bE x).symm g
    · cases h
  | ladd =>
    have hl := hlen rfl
    subst hl
    exact px_o_l2 (g := fun x y => px_w64 (x + y)) (g' := fun x y => x + y) (fun x y _ _ => ⟨by rw [px_o64, Int64.ofInt_add], px_w64_r _⟩) (fun {H locs cells slots ls rest x y} g => lv_ladd hx hb hd g) h k
  | lsub =>
    have hl := hlen rfl
    subst hl
    exact px_o_l2 (g := fun x y => px_w64 (x - y)) (g' := fun x y => x - y) (fun x y _ _ => ⟨by rw [px_o64, Int64.ofInt_sub], px_w64_r _⟩) (fun {H locs cells slots ls rest x y} g => lv_lsub hx hb hd g) h k
  | lmul =>
    have hl := hlen rfl
    subst hl
    exact px_o_l2 (g := fun x y => px_w64 (x * y)) (g' := fun x y => x * y) (fun x y _ _ => ⟨by rw [px_o64, Int64.ofInt_mul], px_w64_r _⟩) (fun {H locs cells slots ls rest x y} g => lv_lmul hx hb hd g) h k
  | land =>
    have hl := hlen rfl
    subst hl
    exact px_o_l2 (g := px_land) (g' := fun x y => x &&& y) (fun x y _ _ => ⟨by unfold px_land; rw [Int64.ofInt_toInt], px_ir64 _⟩) (fun {H locs cells slots ls rest x y} g => lv_land hx hb hd g) h k
  | lor =>
    have hl := hlen rfl
    subst hl
    exact px_o_l2 (g := px_lor) (g' := fun x y => x ||| y) (fun x y _ _ => ⟨by unfold px_lor; rw [Int64.ofInt_toInt], px_ir64 _⟩) (fun {H locs cells slots ls rest x y} g => lv_lor hx hb hd g) h k
  | lxor =>
    have hl := hlen rfl
    subst hl
    exact px_o_l2 (g := px_lxor) (g' := fun x y => x ^^^ y) (fun x y _ _ => ⟨by unfold px_lxor; rw [Int64.ofInt_toInt], px_ir64 _⟩) (fun {H locs cells slots ls rest x y} g => lv_lxor hx hb hd g) h k
  | lshl =>
    have hl := hlen rfl
    subst hl
    exact px_o_ls (g := px_lshl) (g' := fun x y => x <<< (y.toInt64 &&& 63)) (fun x y _ _ => ⟨by unfold px_lshl; rw [Int64.ofInt_toInt], px_ir64 _⟩) (fun {H locs cells slots ls rest x y} g => lv_lshl hx hb hd rfl g) h k
  | lshr =>
    have hl := hlen rfl
    subst hl
    exact px_o_ls (g := px_lshr) (g' := fun x y => x >>> (y.toInt64 &&& 63)) (fun x y _ _ => ⟨by unfold px_lshr; rw [Int64.ofInt_toInt], px_ir64 _⟩) (fun {H locs cells slots ls rest x y} g => lv_lshr hx hb hd rfl g) h k
  | lushr =>
    have hl := hlen rfl
    subst hl
    exact px_o_ls (g := px_lushr) (g' := fun x y => (x.toUInt64 >>> (y.toInt64.toUInt64 &&& Int64.toUInt64 63)).toInt64) (fun x y _ _ => ⟨by unfold px_lushr; rw [Int64.ofInt_toInt], px_ir64 _⟩) (fun {H locs cells slots ls rest x y} g => lv_lushr hx hb hd rfl g) h k
  | lcmp =>
    have hl := hlen rfl
    subst hl
    unfold px_ex at h
    dsimp only at h
    split at h
    · rename_i y x r
      refine px_o_2 (v := vL y) (u := vL x) (w := vI (px_cmp x y)) rfl (fun h1 h2 => px_cmpr _ _) (fun {H locs cells slots ls rest} h1 h2 g => ?_) h k
      exact W.lcmp hx hb hd (by rw [px_cmp_eq h2 h1]; exact g)
    · cases h
  | dup =>
    have hl := hlen rfl
    subst hl
    unfold px_ex at h
    dsimp only at h
    split at h
    · rename_i v r
      split at h
      · rename_i hv
        cases h
        intro H locs ls hLR hok hrel hS
        obtain ⟨h1, hok1⟩ := px_okl_cons.mp hok
        exact lv_dup hx hb hd (by rw [px_tr_cat]; exact hv) (k H locs ls hLR (px_okl_cons.mpr ⟨h1, hok⟩) hrel hS)
      · cases h
    · cases h
  | dup2 =>
    have hl := hlen rfl
    subst hl
    unfold px_ex at h
    dsimp only at h
    split at h
    · rename_i v u r
      split at h
      · rename_i hv
        cases h
        intro H locs ls hLR hok hrel hS
        obtain ⟨h1, hok1⟩ := px_okl_cons.mp hok
        obtain ⟨h2, hok2⟩ := px_okl_cons.mp hok1
        exact lv_dup2_11 hx hb hd (by rw [px_tr_cat]; exact hv.1) (by rw [px_tr_cat]; exact hv.2) (k H locs ls hLR (px_okl_cons.mpr ⟨h1, px_okl_cons.mpr ⟨h2, hok⟩⟩) hrel hS)
      · cases h
    · cases h
  | goto o =>
    have hl := hlen rfl
    subst hl
    unfold px_ex at h
    dsimp only at h
    split at h
    · rename_i t
      have ht2 : (pc : Int) + o = (t : Int) := eq_of_beq hlk
      exact px_o_j (u := []) rfl (fun {H locs cells slots ls rest} _ g => lv_goto hx hb hd ht2 g) h k
    · cases h
  | ifCond cd o =>
    have hl := hlen rfl
    subst hl
    unfold px_ex at h
    dsimp only at h
    split at h
    · rename_i t x r
      have ht2 : (pc : Int) + o = (t : Int) := eq_of_beq hlk
      cases cd with
      | eq => exact px_o_br1 (cd := .eq) rfl (fun {H locs cells slots ls rest} h1 kt kf => lv_if_eq hx hb hd ht2 (fun q => kt ((px_inj32 h1 px_0r).mp q)) (fun q => kf (fun q2 => q ((px_inj32 h1 px_0r).mpr q2)))) h k
      | ne => exact px_o_br1 (cd := .ne) rfl (fun {H locs cells slots ls rest} h1 kt kf => lv_if_ne hx hb hd ht2 (fun q => kt (fun q2 => q ((px_inj32 h1 px_0r).mpr q2))) (fun q => kf (fun q2 => q2 ((px_inj32 h1 px_0r).mp q)))) h k
      | lt => exact px_o_br1 (cd := .lt) rfl (fun {H locs cells slots ls rest} h1 kt kf => lv_if_lt hx hb hd ht2 (fun q => kt ((px_lt32 h1 px_0r).mp q)) (fun q => kf (fun q2 => q ((px_lt32 h1 px_0r).mpr q2)))) h k
      | ge => exact px_o_br1 (cd := .ge) rfl (fun {H locs cells slots ls rest} h1 kt kf => lv_if_ge hx hb hd ht2 (fun q => kt ((px_le32 px_0r h1).mp q)) (fun q => kf (fun q2 => q ((px_le32 px_0r h1).mpr q2)))) h k
      | gt => exact px_o_br1 (cd := .gt) rfl (fun {H locs cells slots ls rest} h1 kt kf => lv_if_gt hx hb hd ht2 (fun q => kt ((px_lt32 px_0r h1).mp q)) (fun q => kf (fun q2 => q ((px_lt32 px_0r h1).mpr q2)))) h k
      | le => exact px_o_br1 (cd := .le) rfl (fun {H locs cells slots ls rest} h1 kt kf => lv_if_le hx hb hd ht2 (fun q => kt ((px_le32 h1 px_0r).mp q)) (fun q => kf (fun q2 => q ((px_le32 h1 px_0r).mpr q2)))) h k
    · cases h
  | if_icmp cd o =>
    have hl := hlen rfl
    subst hl
    unfold px_ex at h
    dsimp only at h
    split at h
    · rename_i t y x r
      have ht2 : (pc : Int) + o = (t : Int) := eq_of_beq hlk
      cases cd with
      | eq => exact px_o_br2 (cd := .eq) rfl (fun {H locs cells slots ls rest} h1 h2 kt kf => lv_icmp_eq hx hb hd ht2 (fun q => kt ((px_inj32 h1 h2).mp q)) (fun q => kf (fun q2 => q ((px_inj32 h1 h2).mpr q2)))) h k
      | ne => exact px_o_br2 (cd := .ne) rfl (fun {H locs cells slots ls rest} h1 h2 kt kf => lv_icmp_ne hx hb hd ht2 (fun q => kt (fun q2 => q ((px_inj32 h1 h2).mpr q2))) (fun q => kf (fun q2 => q2 ((px_inj32 h1 h2).mp q)))) h k
      | lt => exact px_o_br2 (cd := .lt) rfl (fun {H locs cells slots ls rest} h1 h2 kt kf => lv_icmp_lt hx hb hd ht2 (fun q => kt ((px_lt32 h1 h2).mp q)) (fun q => kf (fun q2 => q ((px_lt32 h1 h2).mpr q2)))) h k
      | ge => exact px_o_br2 (cd := .ge) rfl (fun {H locs cells slots ls rest} h1 h2 kt kf => lv_icmp_ge hx hb hd ht2 (fun q => kt ((px_le32 h2 h1).mp q)) (fun q => kf (fun q2 => q ((px_le32 h2 h1).mpr q2)))) h k
      | gt => exact px_o_br2 (cd := .gt) rfl (fun {H locs cells slots ls rest} h1 h2 kt kf => lv_icmp_gt hx hb hd ht2 (fun q => kt ((px_lt32 h2 h1).mp q)) (fun q => kf (fun q2 => q ((px_lt32 h2 h1).mpr q2)))) h k
      | le => exact px_o_br2 (cd := .le) rfl (fun {H locs cells slots ls rest} h1 h2 kt kf => lv_icmp_le hx hb hd ht2 (fun q => kt ((px_le32 h1 h2).mp q)) (fun q => kf (fun q2 => q ((px_le32 h1 h2).mpr q2)))) h k
    · cases h
  | ifnull o =>
    have hl := hlen rfl
    subst hl
    unfold px_ex at h
    dsimp only at h
    split at h
    · rename_i t r
      have ht2 : (pc : Int) + o = (t : Int) := eq_of_beq hlk
      exact px_o_j (u := [vN]) rfl (fun {H locs cells slots ls rest} _ g => lv_ifnullN hx hb hd ht2 g) h k
    · rename_i t x r
      exact px_o_j (u := [vR x]) rfl (fun {H locs cells slots ls rest} _ g => lv_ifnull hx hb hd g) h k
    · cases h
  | ifnonnull o =>
    have hl := hlen rfl
    subst hl
    unfold px_ex at h
    dsimp only at h
    split at h
    · rename_i t r
      exact px_o_j (u := [vN]) rfl (fun {H locs cells slots ls rest} _ g => lv_ifnonnullN hx hb hd g) h k
    · rename_i t x r
      have ht2 : (pc : Int) + o = (t : Int) := eq_of_beq hlk
      exact px_o_j (u := [vR x]) rfl (fun {H locs cells slots ls rest} _ g => lv_ifnonnull hx hb hd ht2 g) h k
    · cases h
  | tableswitch d lo hi fs =>
    unfold px_ex at h
    dsimp only at h
    split at h
    · rename_i dt ts x r
      have hlk2 : ((pc : Int) + d == (dt : Int) && fs.toList.map (fun f => (pc : Int) + f) == ts.map Int.ofNat && lo == val && hi == lo + (ts.length : Int) - 1) = true := hlk
      simp only [Bool.and_eq_true, beq_iff_eq] at hlk2
      obtain ⟨⟨⟨q1, q2⟩, q3⟩, q4⟩ := hlk2
      split at h
      · rename_i hx2
        exact px_o_j (u := [vI x]) rfl (fun {H locs cells slots ls rest} hu g => lv_tableOut hx hb hd (by rw [px_t32 (hu _ List.mem_cons_self)]; exact hx2) q1 g) h k
      · rename_i hx2
        split at h
        · rename_i t htt
          refine px_o_j (u := [vI x]) rfl (fun {H locs cells slots ls rest} hu g => ?_) h k
          have hxr := px_t32 (hu _ List.mem_cons_self)
          have e1 : (fs.toList.map (fun f => (pc : Int) + f))[(x - lo).toNat]? = some (t : Int) := by rw [q2, List.getElem?_map, htt]; rfl
          rw [List.getElem?_map] at e1
          obtain ⟨off, e2, e3⟩ := Option.map_eq_some_iff.mp e1
          exact lv_tableIn hx hb hd (by rw [hxr]; omega) (by rw [hxr]; omega) (by rw [hxr, ← Array.getElem?_toList]; exact e2) e3 g
        · cases h
    · cases h
  | lookupswitch d ps =>
    unfold px_ex at h
    dsimp only at h
    split at h
    · rename_i dt ts x r
      have hlk2 : ((pc : Int) + d == (dt : Int) && ps.toList.map (fun f => (pc : Int) + f.2) == ts.map Int.ofNat && (ps.toList.zip (ps.toList.drop 1)).all (fun (a, next) => a.1 < next.1)) = true := hlk
      rw [Bool.and_eq_true, Bool.and_eq_true] at hlk2
      obtain ⟨⟨q1, q2⟩, q3⟩ := hlk2
      obtain ⟨tgt, g1, g2⟩ := px_swf_lookup d pc dt x ps.toList ts (eq_of_beq q1) (eq_of_beq q2)
      have h2 : px_nx tgt pl r s = some (.inl (f', s')) := by
        rw [← g2]
        revert h
        cases (ps.toList.zip ts).find? (fun q => decide (q.1.1 = x)) with
        | none => exact id
        | some q => exact id
      exact px_o_j (u := [vI x]) rfl (fun {H locs cells slots ls rest} hu g => lv_lookup hx hb hd q3 (by rw [px_t32 (hu _ List.mem_cons_self)]) g1 g) h2 k
    · cases h
  | getfield i =>
    have hl := hlen rfl
    subst hl
    unfold px_ex at h
    dsimp only at h
    split at h
    · rename_i l0 ci ty fin
      obtain ⟨j, hv, g1, g2, g3, g4, g5⟩ := px_lk_f (o := 0) (i' := 0) (c' := 0) (j := 0) hlk
      subst hv
      exact px_o_get hC hd g1 g2 g3 g5 h k
    · cases h
  | putfield i =>
    have hl := hlen rfl
    subst hl
    unfold px_ex at h
    dsimp only at h
    split at h
    · rename_i l0 ci ty fin
      obtain ⟨j, hv, g1, g2, g3, g4, g5⟩ := px_lk_f (o := 0) (i' := 0) (c' := 0) (j := 0) hlk
      subst hv
      split at h
      · rename_i hf
        exact px_o_put hC hd g1 g2 g3 (by rw [← g4]; exact hf) g5 h k
      · cases h
    · cases h
  | getstatic i =>
    have hl := hlen rfl
    subst hl
    unfold px_ex at h
    dsimp only at h
    split at h
    · rename_i hm
      obtain ⟨rfl, rfl⟩ := hm
      cases h
      intro H locs ls hLR hok hrel hS
      exact va_gets (C := "TideGuests$Reader") (n := "ALLOWED") (d := "[I") (ref := "TideGuests$Reader") hx hb hE.2.2.2.2.2.1 hS hown (hts _ px_rw0) (fun _ h => h) hd (k H locs ls hLR (px_okl_cons.mpr ⟨trivial, hok⟩) hrel hS)
    · cases h
  | arraylength =>
    have hl := hlen rfl
    subst hl
    exact px_o_aln hC hd h k
  | iaload =>
    have hl := hlen rfl
    subst hl
    exact px_o_iald hC hd h k
  | baload =>
    have hl := hlen rfl
    subst hl
    exact px_o_bald hC hd h k
  | laload =>
    have hl := hlen rfl
    subst hl
    exact px_o_lald hC hd h k
  | aaload =>
    have hl := hlen rfl
    subst hl
    exact px_o_aald hC hd h k
  | iastore =>
    have hl := hlen rfl
    subst hl
    exact px_o_iast hC hd h k
  | bastore =>
    have hl := hlen rfl
    subst hl
    exact px_o_bast hC hd h k
  | lastore =>
    have hl := hlen rfl
    subst hl
    exact px_o_last hC hd h k
  | aastore =>
    have hl := hlen rfl
    subst hl
    exact px_o_aast hC hd h k
  | new i =>
    have hl := hlen rfl
    subst hl
    unfold px_ex at h
    dsimp only at h
    split at h
    · rename_i l0 ci
      obtain ⟨g1, g2⟩ := px_clk_of hlk
      exact px_o_new hC hd g2 g1 h he ht hR1 hR2 k
    · cases h
  | newarray t =>
    have hl := hlen rfl
    subst hl
    obtain ⟨-, -, -, -, -, -, -, -, -, n0, n1, n2, n3, n7, n15⟩ := hE
    cases t with
    | int => exact px_o_nwa (t := 0) hC (Or.inl rfl) hd px_aw0 (by decide) n0 rfl h he ht hR1 hR2 k
    | byte => exact px_o_nwa (t := 1) hC (Or.inr (Or.inl rfl)) hd px_aw1 (by decide) n1 rfl h he ht hR1 hR2 k
    | boolean => exact px_o_nwa (t := 2) hC (Or.inr (Or.inr (Or.inl rfl))) hd px_aw2 (by decide) n2 rfl h he ht hR1 hR2 k
    | long => exact px_o_nwa (t := 3) hC (Or.inr (Or.inr (Or.inr (Or.inl rfl)))) hd px_aw3 (by decide) n3 rfl h he ht hR1 hR2 k
    | _ => cases h
  | anewarray i =>
    have hl := hlen rfl
    subst hl
    unfold px_ex at h
    dsimp only at h
    split at h
    · rename_i l0 ci
      obtain ⟨g1, g2⟩ := px_clk_of hlk
      obtain ⟨-, -, hov, -, -, -, -, -, -, n0, n1, n2, n3, n7, n15⟩ := hE
      split at h
      · rename_i hci
        rcases hci with rfl | rfl
        · exact px_o_anw (ci := 3) hC (Or.inr (Or.inr (Or.inr (Or.inr (Or.inl rfl))))) hd g1 hov.1 n7 h he ht hR1 hR2 k
        · exact px_o_anw (ci := 11) hC (Or.inr (Or.inr (Or.inr (Or.inr (Or.inr rfl))))) hd g1 hov.2 n15 h he ht hR1 hR2 k
      · cases h
    · cases h
  | ldc i =>
    have hl := hlen rfl
    subst hl
    unfold px_ex at h
    dsimp only at h
    split at h
    · rename_i l0
      obtain ⟨g1, g2⟩ := px_klk_i hlk
      exact px_o_c (v := vI val) g2 (fun {H locs cells slots ls rest} g => lv_ldc hx hb hown (hts _ g1) hd g) h k
    · split at h
      · rename_i hm
        obtain ⟨hm1, rfl⟩ := hm
        have hown : s0.vm.findClass "TideGuests$Reader" = some mi.cls := by rw [hm1] at hown; exact hown
        exact px_o_c (v := vR 2) trivial (fun {H locs cells slots ls rest} g => va_ldcS hx hb hown hE.2.2.2.2.2.2.1 hd g) h k
      · cases h
    · cases h
  | ldc_w i =>
    have hl := hlen rfl
    subst hl
    unfold px_ex at h
    dsimp only at h
    split at h
    · rename_i l0
      obtain ⟨g1, g2⟩ := px_klk_i hlk
      exact px_o_c (v := vI val) g2 (fun {H locs cells slots ls rest} g => lv_ldcw hx hb hown (hts _ g1) hd g) h k
    · cases h
  | ldc2_w i =>
    have hl := hlen rfl
    subst hl
    unfold px_ex at h
    dsimp only at h
    split at h
    · rename_i l0
      obtain ⟨g1, g2⟩ := px_klk_l hlk
      exact px_o_c (v := vL val) g2 (fun {H locs cells slots ls rest} g => lv_ldc2 hx hb hown (hts _ g1) hd g) h k
    · cases h
  | invokestatic i =>
    have hl := hlen rfl
    subst hl
    unfold px_ex at h
    dsimp only at h
    split at h
    · rename_i l0 m'
      exact absurd h (px_call_no _)
    · rename_i l0
      exact px_o_acp hC rfl hd (px_ilk_of (k0 := 2) hlk) (by omega) (by omega) h k
    · rename_i l0
      have g1 : Cond.methodLink (px_own (px_mo m)) i Lib.Math.max.name ∈ px_gt := px_ilk_of (k0 := 5) hlk
      unfold px_mi at h
      split at h
      · rename_i y x r
        split at h
        · rename_i hc
          cases h
          intro H locs ls hLR hok hrel hS
          obtain ⟨h1, hok1⟩ := px_okl_cons.mp hok
          obtain ⟨h2, hok2⟩ := px_okl_cons.mp hok1
          have e1 : (if Int32.ofInt x < Int32.ofInt y then Int32.ofInt y else Int32.ofInt x) = Int32.ofInt (if x < y then y else x) := by
            by_cases hq : x < y
            · rw [if_pos hq, if_pos ((px_lt32 h2 h1).mpr hq)]
            · rw [if_neg hq, if_neg (fun q => hq ((px_lt32 h2 h1).mp q))]
          refine va_mmax hx hb (by rw [hml, hLR.1]) hown (hts _ g1) (hts _ px_mw1) (hts _ px_mw0) (hts _ px_mw2) (by omega) (by rw [px_catsum]; omega) (by omega) (by omega) hd ?_
          rw [e1]
          exact k H locs ls hLR (px_okl_cons.mpr ⟨by show px_r32 (if x < y then y else x); split <;> assumption, hok2⟩) hrel hS
        · cases h
      · cases h
    · rename_i l0
      have g1 : Cond.methodLink (px_own (px_mo m)) i Lib.Math.min.name ∈ px_gt := px_ilk_of (k0 := 6) hlk
      unfold px_mi at h
      split at h
      · rename_i y x r
        split at h
        · rename_i hc
          cases h
          intro H locs ls hLR hok hrel hS
          obtain ⟨h1, hok1⟩ := px_okl_cons.mp hok
          obtain ⟨h2, hok2⟩ := px_okl_cons.mp hok1
          have e1 : (if Int32.ofInt y < Int32.ofInt x then Int32.ofInt y else Int32.ofInt x) = Int32.ofInt (if y < x then y else x) := by
            by_cases hq : y < x
            · rw [if_pos hq, if_pos ((px_lt32 h1 h2).mpr hq)]
            · rw [if_neg hq, if_neg (fun q => hq ((px_lt32 h1 h2).mp q))]
          refine va_mmin hx hb (by rw [hml, hLR.1]) hown (hts _ g1) (hts _ px_mw3) (hts _ px_mw0) (hts _ px_mw4) (by omega) (by rw [px_catsum]; omega) (by omega) (by omega) hd ?_
          rw [e1]
          exact k H locs ls hLR (px_okl_cons.mpr ⟨by show px_r32 (if y < x then y else x); split <;> assumption, hok2⟩) hrel hS
        · cases h
      · cases h
    · rename_i l0
      have g1 : Cond.methodLink (px_own (px_mo m)) i Lib.Math.abs.name ∈ px_gt := px_ilk_of (k0 := 7) hlk
      unfold px_ma at h
      split at h
      · rename_i x r
        split at h
        · rename_i hc
          cases h
          intro H locs ls hLR hok hrel hS
          obtain ⟨h1, hok1⟩ := px_okl_cons.mp hok
          have hle : (0 : Int32) ≤ Int32.ofInt x ↔ 0 ≤ x := by have := px_le32 px_0r h1; rwa [px_o0] at this
          have e1 : (if 0 ≤ Int32.ofInt x then Int32.ofInt x else 0 - Int32.ofInt x) = Int32.ofInt (if 0 ≤ x then x else px_w32 (0 - x)) := by
            by_cases hq : 0 ≤ x
            · rw [if_pos hq, if_pos (hle.mpr hq)]
            · rw [if_neg hq, if_neg (fun q => hq (hle.mp q)), px_o32, Int32.ofInt_sub, px_o0]
          refine va_mabs hx hb (by rw [hml, hLR.1]) hown (hts _ g1) (hts _ px_mw5) (hts _ px_mw0) (hts _ px_mw6) (by omega) (by rw [px_catsum]; omega) (by omega) (by omega) hd ?_
          rw [e1]
          exact k H locs ls hLR (px_okl_cons.mpr ⟨by show px_r32 _; split; assumption; exact px_w32_r _, hok1⟩) hrel hS
        · cases h
      · cases h
    · rename_i l0
      have g1 : Cond.methodLink (px_own (px_mo m)) i Lib.MathLoose.max_long.x ∈ px_gt := px_ilk_of (k0 := 8) hlk
      unfold px_mj at h
      split at h
      · rename_i y x r
        split at h
        · rename_i hc
          cases h
          intro H locs ls hLR hok hrel hS
          obtain ⟨h1, hok1⟩ := px_okl_cons.mp hok
          obtain ⟨h2, hok2⟩ := px_okl_cons.mp hok1
          have e1 : (if Int64.ofInt y < Int64.ofInt x then Int64.ofInt x else Int64.ofInt y) = Int64.ofInt (if y < x then x else y) := by
            by_cases hq : y < x
            · rw [if_pos hq, if_pos ((px_lt64 h1 h2).mpr hq)]
            · rw [if_neg hq, if_neg (fun q => hq ((px_lt64 h1 h2).mp q))]
          refine va_mmax_long hx hb (by rw [hml, hLR.1]) hown (hts _ g1) (hts _ px_mw7) (hts _ px_mw0) (hts _ px_mw8) (by omega) (by rw [px_catsum]; omega) (by omega) (by omega) hd ?_
          rw [e1]
          exact k H locs ls hLR (px_okl_cons.mpr ⟨by show px_r64 (if y < x then x else y); split <;> assumption, hok2⟩) hrel hS
        · cases h
      · cases h
    · rename_i l0
      have g1 : Cond.methodLink (px_own (px_mo m)) i Lib.MathLoose.min_long.x ∈ px_gt := px_ilk_of (k0 := 9) hlk
      unfold px_mj at h
      split at h
      · rename_i y x r
        split at h
        · rename_i hc
          cases h
          intro H locs ls hLR hok hrel hS
          obtain ⟨h1, hok1⟩ := px_okl_cons.mp hok
          obtain ⟨h2, hok2⟩ := px_okl_cons.mp hok1
          have e1 : (if Int64.ofInt y < Int64.ofInt x then Int64.ofInt y else Int64.ofInt x) = Int64.ofInt (if x < y then x else y) := by
            by_cases hq : y < x
            · rw [if_pos ((px_lt64 h1 h2).mpr hq), if_neg (show ¬ x < y by omega)]
            · rw [if_neg (fun q => hq ((px_lt64 h1 h2).mp q))]
              by_cases hq2 : x < y
              · rw [if_pos hq2]
              · rw [if_neg hq2, show x = y by omega]
          refine va_mmin_long hx hb (by rw [hml, hLR.1]) hown (hts _ g1) (hts _ px_mw9) (hts _ px_mw0) (hts _ px_mwA) (by omega) (by rw [px_catsum]; omega) (by omega) (by omega) hd ?_
          rw [e1]
          exact k H locs ls hLR (px_okl_cons.mpr ⟨by show px_r64 (if x < y then x else y); split <;> assumption, hok2⟩) hrel hS
        · cases h
      · cases h
    · cases h
  | invokevirtual i =>
    have hl := hlen rfl
    subst hl
    unfold px_ex at h
    dsimp only at h
    split at h
    · rename_i l0 m'
      exact absurd h (px_call_no _)
    · rename_i l0
      have g1 := px_ilk_of (k0 := 3) hlk
      unfold px_sln at h
      split at h
      · rename_i r
        split at h
        · rename_i hc
          cases h
          intro H locs ls hLR hok hrel hS
          obtain ⟨h1, hok1⟩ := px_okl_cons.mp hok
          exact px_o_str (n := 0) (As := []) hC hSF rfl hd g1 px_qw0 px_qw1 px_qw3 ⟨rfl, by decide +kernel⟩ (by omega) hST.1 rfl hRf hRl hc ⟨by decide +kernel, by decide +kernel⟩ hLR hok1 hrel hS hR0 hR9 k
        · cases h
      · cases h
    · rename_i l0
      have g1 := px_ilk_of (k0 := 4) hlk
      unfold px_sch at h
      split at h
      · rename_i x r
        split at h
        · rename_i hc
          cases h
          intro H locs ls hLR hok hrel hS
          obtain ⟨h1, hok1⟩ := px_okl_cons.mp hok
          obtain ⟨h2, hok2⟩ := px_okl_cons.mp hok1
          exact px_o_str (n := 1) (As := [.int (Int32.ofInt x)]) hC hSF rfl hd g1 px_qw4 px_qw5 px_qw6 ⟨rfl, by decide +kernel⟩ (by omega) (hST.2 x hc.1 hc.2.1) rfl hRf hRl hc.2.2 (px_wordr _) hLR hok2 hrel hS hR0 hR9 k
        · cases h
      · cases h
    · cases h
  | invokespecial i =>
    have hl := hlen rfl
    subst hl
    unfold px_ex at h
    dsimp only at h
    split at h
    · rename_i l0 m'
      exact absurd h (px_call_no _)
    · rename_i l0
      have g1 : Cond.methodLink (px_own (px_mo m)) i objectInit ∈ px_gt := px_ilk_of (k0 := 1) hlk
      split at h
      · rename_i x r
        split at h
        · rename_i hc
          cases h
          intro H locs ls hLR hok hrel hS
          obtain ⟨h1, hok1⟩ := px_okl_cons.mp hok
          refine W.objInit hx hb hown (hts _ g1) (hts _ px_ow0) (hts _ px_ow1) rfl (by rw [hml]; exact hLR.1) rfl hd (by omega) (by show 2 * 0 + _ + 12 ≤ _; rw [px_catsum]; omega) ?_
          exact k H locs ls hLR hok1 hrel hS
        · cases h
      · cases h
    · cases h
  | ireturn =>
    unfold px_ex at h
    dsimp only at h
    split at h
    · split at h <;> cases h
    · cases h
  | lreturn =>
    unfold px_ex at h
    dsimp only at h
    split at h
    · split at h <;> cases h
    · cases h
  | areturn =>
    unfold px_ex at h
    dsimp only at h
    split at h
    · split at h <;> cases h
    · cases h
  | return_ =>
    unfold px_ex at h
    dsimp only at h
    split at h
    · split at h <;> cases h
    · cases h
  | _ => cases h
end PX6
