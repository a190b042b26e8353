/-! One instruction of the pure machine is one of the real machine's: loads, stores, arithmetic, branches. -/
section PX1
variable {p : Program} {l : Launch} {e : Env} {R : Room} {s0 : State} {mi : MethodId} {args : Array Value} {below : List Frame} {meth : Method} {c : Code} {Q : State → Prop}
variable {G : PG} {L : Nat} {xs alw : Nat → Int32} {e0 t0 : Nat} {cc : ByteArray} {nL pc : Nat} {pl st : List PV} {s s' : PM} {f' : FR}
abbrev px_atS (p : Program) (l : Launch) (e : Env) (R : Room) (s0 : State) (mi : MethodId) (args : Array Value) (below : List Frame) (meth : Method) (c : Code) (Q : State → Prop) (G : PG) (L : Nat) (xs alw : Nat → Int32) (nL e0 t0 : Nat) := px_AT p l e R s0 mi args below meth c Q G L xs alw nL e0 t0
theorem px_o_ld {i len : Nat} (row : ∀ {H : Heap} {locs : List Loc} {cells slots : Nat} {ls : Array Slot} {rest : List Value} {x : Int32}, ls[i]? = some (.val (.int x)) → W p l e R s0 mi args below meth c H locs cells slots Q (F0 mi (pc + len) ls (.int x :: rest)) → W p l e R s0 mi args below meth c H locs cells slots Q (F0 mi pc ls rest))
    (h : px_ld i len pc pl st s = some (.inl (f', s'))) (k : px_AT p l e R s0 mi args below meth c Q G L xs alw nL e0 t0 f' s') : px_AT p l e R s0 mi args below meth c Q G L xs alw nL e0 t0 (pc, pl, st) s := by
  unfold px_ld at h
  split at h
  · rename_i x hx
    cases h
    intro H locs ls hLR hok hrel hS
    obtain ⟨g1, g2⟩ := px_LR_get hLR hx (fun h => by cases h)
    exact row g1 (k H locs ls hLR (px_okl_cons.mpr ⟨g2, hok⟩) hrel hS)
  · cases h
theorem px_o_lld {i len : Nat} (row : ∀ {H : Heap} {locs : List Loc} {cells slots : Nat} {ls : Array Slot} {rest : List Value} {x : Int64}, ls[i]? = some (.val (.long x)) → W p l e R s0 mi args below meth c H locs cells slots Q (F0 mi (pc + len) ls (.long x :: rest)) → W p l e R s0 mi args below meth c H locs cells slots Q (F0 mi pc ls rest))
    (h : px_lld i len pc pl st s = some (.inl (f', s'))) (k : px_AT p l e R s0 mi args below meth c Q G L xs alw nL e0 t0 f' s') : px_AT p l e R s0 mi args below meth c Q G L xs alw nL e0 t0 (pc, pl, st) s := by
  unfold px_lld at h
  split at h
  · rename_i x hx
    cases h
    intro H locs ls hLR hok hrel hS
    obtain ⟨g1, g2⟩ := px_LR_get hLR hx (fun h => by cases h)
    exact row g1 (k H locs ls hLR (px_okl_cons.mpr ⟨g2, hok⟩) hrel hS)
  · cases h
theorem px_o_ald {i len : Nat} (row : ∀ {H : Heap} {locs : List Loc} {cells slots : Nat} {ls : Array Slot} {rest : List Value} {x : Option Nat}, ls[i]? = some (.val (va_rf x)) → W p l e R s0 mi args below meth c H locs cells slots Q (F0 mi (pc + len) ls (va_rf x :: rest)) → W p l e R s0 mi args below meth c H locs cells slots Q (F0 mi pc ls rest))
    (h : px_ald i len pc pl st s = some (.inl (f', s'))) (k : px_AT p l e R s0 mi args below meth c Q G L xs alw nL e0 t0 f' s') : px_AT p l e R s0 mi args below meth c Q G L xs alw nL e0 t0 (pc, pl, st) s := by
  unfold px_ald at h
  split at h
  · rename_i x hx
    cases h
    intro H locs ls hLR hok hrel hS
    obtain ⟨g1, g2⟩ := px_LR_get hLR hx (fun h => by cases h)
    exact row g1 (k H locs ls hLR (px_okl_cons.mpr ⟨g2, hok⟩) hrel hS)
  · cases h
theorem px_o_ist {i len : Nat} (row : ∀ {H : Heap} {locs : List Loc} {cells slots : Nat} {ls : Array Slot} {rest : List Value} {x : Int32} {lv : List (Nat × Value)}, lv_has ls nL lv → i < nL → (∀ ls' : Array Slot, lv_has ls' nL ((i, Value.int x) :: lv.filter (fun q => !(q.1 == i) && !(q.1 + 1 == i && q.2.category == 2))) → W p l e R s0 mi args below meth c H locs cells slots Q (F0 mi (pc + len) ls' rest)) → W p l e R s0 mi args below meth c H locs cells slots Q (F0 mi pc ls (.int x :: rest)))
    (h : px_ist i len pc pl st s = some (.inl (f', s'))) (k : px_AT p l e R s0 mi args below meth c Q G L xs alw nL e0 t0 f' s') : px_AT p l e R s0 mi args below meth c Q G L xs alw nL e0 t0 (pc, pl, st) s := by
  unfold px_ist at h
  split at h
  · split at h
    · rename_i hi
      cases h
      intro H locs ls hLR hok hrel hS
      obtain ⟨h1, h2⟩ := px_okl_cons.mp hok
      have hi' : i < nL := by rw [← hLR.2.2.1]; exact hi
      exact row (px_LR_has hLR) hi' (fun ls' hl => k H locs ls' (px_LR_st1 hLR hi' h1 hl) h2 hrel hS)
    · cases h
  · cases h
theorem px_o_lst {i len : Nat} (row : ∀ {H : Heap} {locs : List Loc} {cells slots : Nat} {ls : Array Slot} {rest : List Value} {x : Int64} {lv : List (Nat × Value)}, lv_has ls nL lv → i + 1 < nL → (∀ ls' : Array Slot, lv_has ls' nL ((i, Value.long x) :: lv.filter (fun q => !(q.1 == i) && (!(q.1 == i + 1) && !(q.1 + 1 == i && q.2.category == 2)))) → W p l e R s0 mi args below meth c H locs cells slots Q (F0 mi (pc + len) ls' rest)) → W p l e R s0 mi args below meth c H locs cells slots Q (F0 mi pc ls (.long x :: rest)))
    (h : px_lst i len pc pl st s = some (.inl (f', s'))) (k : px_AT p l e R s0 mi args below meth c Q G L xs alw nL e0 t0 f' s') : px_AT p l e R s0 mi args below meth c Q G L xs alw nL e0 t0 (pc, pl, st) s := by
  unfold px_lst at h
  split at h
  · split at h
    · rename_i hi
      cases h
      intro H locs ls hLR hok hrel hS
      obtain ⟨h1, h2⟩ := px_okl_cons.mp hok
      have hi' : i + 1 < nL := by rw [← hLR.2.2.1]; exact hi
      exact row (px_LR_has hLR) hi' (fun ls' hl => k H locs ls' (px_LR_st2 hLR hi' h1 hl) h2 hrel hS)
    · cases h
  · cases h
theorem px_o_ast {i len : Nat} (row : ∀ {H : Heap} {locs : List Loc} {cells slots : Nat} {ls : Array Slot} {rest : List Value} {x : Option Nat} {lv : List (Nat × Value)}, lv_has ls nL lv → i < nL → (∀ ls' : Array Slot, lv_has ls' nL ((i, va_rf x) :: lv.filter (fun q => !(q.1 == i) && !(q.1 + 1 == i && q.2.category == 2))) → W p l e R s0 mi args below meth c H locs cells slots Q (F0 mi (pc + len) ls' rest)) → W p l e R s0 mi args below meth c H locs cells slots Q (F0 mi pc ls (va_rf x :: rest)))
    (h : px_ast i len pc pl st s = some (.inl (f', s'))) (k : px_AT p l e R s0 mi args below meth c Q G L xs alw nL e0 t0 f' s') : px_AT p l e R s0 mi args below meth c Q G L xs alw nL e0 t0 (pc, pl, st) s := by
  unfold px_ast at h
  split at h
  · split at h
    · rename_i hi
      cases h
      intro H locs ls hLR hok hrel hS
      obtain ⟨h1, h2⟩ := px_okl_cons.mp hok
      have hi' : i < nL := by rw [← hLR.2.2.1]; exact hi
      exact row (px_LR_has hLR) hi' (fun ls' hl => k H locs ls' (px_LR_st1 hLR hi' h1 hl) h2 hrel hS)
    · cases h
  · cases h
theorem px_o_i2 {g : Int → Int → Int} {g' : Int32 → Int32 → Int32} (hg : ∀ x y, px_r32 x → px_r32 y → g' (Int32.ofInt x) (Int32.ofInt y) = Int32.ofInt (g x y) ∧ px_r32 (g x y))
    (row : ∀ {H : Heap} {locs : List Loc} {cells slots : Nat} {ls : Array Slot} {rest : List Value} {x y : Int32}, W p l e R s0 mi args below meth c H locs cells slots Q (F0 mi (pc + 1) ls (.int (g' x y) :: rest)) → W p l e R s0 mi args below meth c H locs cells slots Q (F0 mi pc ls (.int y :: .int x :: rest)))
    (h : px_i2 g pc pl st s = some (.inl (f', s'))) (k : px_AT p l e R s0 mi args below meth c Q G L xs alw nL e0 t0 f' s') : px_AT p l e R s0 mi args below meth c Q G L xs alw nL e0 t0 (pc, pl, st) s := by
  unfold px_i2 at h
  split at h
  · cases h
    intro H locs ls hLR hok hrel hS
    obtain ⟨h1, hok⟩ := px_okl_cons.mp hok
    obtain ⟨h2, hok⟩ := px_okl_cons.mp hok
    obtain ⟨q1, q2⟩ := hg _ _ h2 h1
    refine row ?_
    rw [q1]
    exact k H locs ls hLR (px_okl_cons.mpr ⟨q2, hok⟩) hrel hS
  · cases h
theorem px_o_l2 {g : Int → Int → Int} {g' : Int64 → Int64 → Int64} (hg : ∀ x y, px_r64 x → px_r64 y → g' (Int64.ofInt x) (Int64.ofInt y) = Int64.ofInt (g x y) ∧ px_r64 (g x y))
    (row : ∀ {H : Heap} {locs : List Loc} {cells slots : Nat} {ls : Array Slot} {rest : List Value} {x y : Int64}, W p l e R s0 mi args below meth c H locs cells slots Q (F0 mi (pc + 1) ls (.long (g' x y) :: rest)) → W p l e R s0 mi args below meth c H locs cells slots Q (F0 mi pc ls (.long y :: .long x :: rest)))
    (h : px_l2 g pc pl st s = some (.inl (f', s'))) (k : px_AT p l e R s0 mi args below meth c Q G L xs alw nL e0 t0 f' s') : px_AT p l e R s0 mi args below meth c Q G L xs alw nL e0 t0 (pc, pl, st) s := by
  unfold px_l2 at h
  split at h
  · cases h
    intro H locs ls hLR hok hrel hS
    obtain ⟨h1, hok⟩ := px_okl_cons.mp hok
    obtain ⟨h2, hok⟩ := px_okl_cons.mp hok
    obtain ⟨q1, q2⟩ := hg _ _ h2 h1
    refine row ?_
    rw [q1]
    exact k H locs ls hLR (px_okl_cons.mpr ⟨q2, hok⟩) hrel hS
  · cases h
theorem px_o_ls {g : Int → Int → Int} {g' : Int64 → Int32 → Int64} (hg : ∀ x y, px_r64 x → px_r32 y → g' (Int64.ofInt x) (Int32.ofInt y) = Int64.ofInt (g x y) ∧ px_r64 (g x y))
    (row : ∀ {H : Heap} {locs : List Loc} {cells slots : Nat} {ls : Array Slot} {rest : List Value} {x : Int64} {y : Int32}, W p l e R s0 mi args below meth c H locs cells slots Q (F0 mi (pc + 1) ls (.long (g' x y) :: rest)) → W p l e R s0 mi args below meth c H locs cells slots Q (F0 mi pc ls (.int y :: .long x :: rest)))
    (h : px_ls g pc pl st s = some (.inl (f', s'))) (k : px_AT p l e R s0 mi args below meth c Q G L xs alw nL e0 t0 f' s') : px_AT p l e R s0 mi args below meth c Q G L xs alw nL e0 t0 (pc, pl, st) s := by
  unfold px_ls at h
  split at h
  · cases h
    intro H locs ls hLR hok hrel hS
    obtain ⟨h1, hok⟩ := px_okl_cons.mp hok
    obtain ⟨h2, hok⟩ := px_okl_cons.mp hok
    obtain ⟨q1, q2⟩ := hg _ _ h2 h1
    refine row ?_
    rw [q1]
    exact k H locs ls hLR (px_okl_cons.mpr ⟨q2, hok⟩) hrel hS
  · cases h
/-- a constant on the stack -/
theorem px_o_c {v : PV} {pc' : Nat} (hv : px_okv v) (row : ∀ {H : Heap} {locs : List Loc} {cells slots : Nat} {ls : Array Slot} {rest : List Value}, W p l e R s0 mi args below meth c H locs cells slots Q (F0 mi pc' ls (px_tr G v :: rest)) → W p l e R s0 mi args below meth c H locs cells slots Q (F0 mi pc ls rest))
    (h : px_nx pc' pl (v :: st) s = some (.inl (f', s'))) (k : px_AT p l e R s0 mi args below meth c Q G L xs alw nL e0 t0 f' s') : px_AT p l e R s0 mi args below meth c Q G L xs alw nL e0 t0 (pc, pl, st) s := by
  cases h
  intro H locs ls hLR hok hrel hS
  exact row (k H locs ls hLR (px_okl_cons.mpr ⟨hv, hok⟩) hrel hS)
/-- the top of the stack for another value -/
theorem px_o_1 {v w : PV} {st1 : List PV} {pc' : Nat} (hst : st = v :: st1) (hw : px_okv v → px_okv w) (row : ∀ {H : Heap} {locs : List Loc} {cells slots : Nat} {ls : Array Slot} {rest : List Value}, px_okv v → W p l e R s0 mi args below meth c H locs cells slots Q (F0 mi pc' ls (px_tr G w :: rest)) → W p l e R s0 mi args below meth c H locs cells slots Q (F0 mi pc ls (px_tr G v :: rest)))
    (h : px_nx pc' pl (w :: st1) s = some (.inl (f', s'))) (k : px_AT p l e R s0 mi args below meth c Q G L xs alw nL e0 t0 f' s') : px_AT p l e R s0 mi args below meth c Q G L xs alw nL e0 t0 (pc, pl, st) s := by
  subst hst
  cases h
  intro H locs ls hLR hok hrel hS
  obtain ⟨h1, hok⟩ := px_okl_cons.mp hok
  exact row h1 (k H locs ls hLR (px_okl_cons.mpr ⟨hw h1, hok⟩) hrel hS)
theorem px_o_2 {v u w : PV} {st1 : List PV} {pc' : Nat} (hst : st = v :: u :: st1) (hw : px_okv v → px_okv u → px_okv w) (row : ∀ {H : Heap} {locs : List Loc} {cells slots : Nat} {ls : Array Slot} {rest : List Value}, px_okv v → px_okv u → W p l e R s0 mi args below meth c H locs cells slots Q (F0 mi pc' ls (px_tr G w :: rest)) → W p l e R s0 mi args below meth c H locs cells slots Q (F0 mi pc ls (px_tr G v :: px_tr G u :: rest)))
    (h : px_nx pc' pl (w :: st1) s = some (.inl (f', s'))) (k : px_AT p l e R s0 mi args below meth c Q G L xs alw nL e0 t0 f' s') : px_AT p l e R s0 mi args below meth c Q G L xs alw nL e0 t0 (pc, pl, st) s := by
  subst hst
  cases h
  intro H locs ls hLR hok hrel hS
  obtain ⟨h1, hok⟩ := px_okl_cons.mp hok
  obtain ⟨h2, hok⟩ := px_okl_cons.mp hok
  exact row h1 h2 (k H locs ls hLR (px_okl_cons.mpr ⟨hw h1 h2, hok⟩) hrel hS)
/-- a branch on two ints -/
theorem px_o_br2 {cd : ClassFile.Cond} {x y : Int} {st1 : List PV} {tgt : Nat} (hst : st = .inl y :: .inl x :: st1)
    (row : ∀ {H : Heap} {locs : List Loc} {cells slots : Nat} {ls : Array Slot} {rest : List Value}, px_r32 x → px_r32 y → (px_cb cd x y → W p l e R s0 mi args below meth c H locs cells slots Q (F0 mi tgt ls rest)) → (¬ px_cb cd x y → W p l e R s0 mi args below meth c H locs cells slots Q (F0 mi (pc + 3) ls rest)) → W p l e R s0 mi args below meth c H locs cells slots Q (F0 mi pc ls (.int (Int32.ofInt y) :: .int (Int32.ofInt x) :: rest)))
    (h : px_br cd x y tgt pc pl st1 s = some (.inl (f', s'))) (k : px_AT p l e R s0 mi args below meth c Q G L xs alw nL e0 t0 f' s') : px_AT p l e R s0 mi args below meth c Q G L xs alw nL e0 t0 (pc, pl, st) s := by
  subst hst
  unfold px_br at h
  intro H locs ls hLR hok hrel hS
  obtain ⟨h1, hok⟩ := px_okl_cons.mp hok
  obtain ⟨h2, hok⟩ := px_okl_cons.mp hok
  refine row h2 h1 (fun hc => ?_) (fun hc => ?_)
  · split at h
    · cases h
      exact k H locs ls hLR hok hrel hS
    · rename_i hn _
      exact absurd hc hn
  · split at h
    · rename_i hn _
      exact absurd hn hc
    · cases h
      exact k H locs ls hLR hok hrel hS
theorem px_o_br1 {cd : ClassFile.Cond} {x : Int} {st1 : List PV} {tgt : Nat} (hst : st = .inl x :: st1)
    (row : ∀ {H : Heap} {locs : List Loc} {cells slots : Nat} {ls : Array Slot} {rest : List Value}, px_r32 x → (px_cb cd x 0 → W p l e R s0 mi args below meth c H locs cells slots Q (F0 mi tgt ls rest)) → (¬ px_cb cd x 0 → W p l e R s0 mi args below meth c H locs cells slots Q (F0 mi (pc + 3) ls rest)) → W p l e R s0 mi args below meth c H locs cells slots Q (F0 mi pc ls (.int (Int32.ofInt x) :: rest)))
    (h : px_br cd x 0 tgt pc pl st1 s = some (.inl (f', s'))) (k : px_AT p l e R s0 mi args below meth c Q G L xs alw nL e0 t0 f' s') : px_AT p l e R s0 mi args below meth c Q G L xs alw nL e0 t0 (pc, pl, st) s := by
  subst hst
  unfold px_br at h
  intro H locs ls hLR hok hrel hS
  obtain ⟨h1, hok⟩ := px_okl_cons.mp hok
  refine row h1 (fun hc => ?_) (fun hc => ?_)
  · split at h
    · cases h
      exact k H locs ls hLR hok hrel hS
    · rename_i hn _
      exact absurd hc hn
  · split at h
    · rename_i hn _
      exact absurd hn hc
    · cases h
      exact k H locs ls hLR hok hrel hS
/-- only the place and the stack's rest change -/
theorem px_o_j {u : List PV} {st1 : List PV} {pc' : Nat} (hst : st = u ++ st1) (row : ∀ {H : Heap} {locs : List Loc} {cells slots : Nat} {ls : Array Slot} {rest : List Value}, px_okl u → W p l e R s0 mi args below meth c H locs cells slots Q (F0 mi pc' ls rest) → W p l e R s0 mi args below meth c H locs cells slots Q (F0 mi pc ls (u.map (px_tr G) ++ rest)))
    (h : px_nx pc' pl st1 s = some (.inl (f', s'))) (k : px_AT p l e R s0 mi args below meth c Q G L xs alw nL e0 t0 f' s') : px_AT p l e R s0 mi args below meth c Q G L xs alw nL e0 t0 (pc, pl, st) s := by
  subst hst
  cases h
  intro H locs ls hLR hok hrel hS
  have h1 : px_okl u := fun v hv => hok v (List.mem_append_left _ hv)
  have h2 : px_okl st1 := fun v hv => hok v (List.mem_append_right _ hv)
  show W p l e R s0 mi args below meth c H locs _ _ Q (F0 mi pc ls ((u ++ st1).map (px_tr G)))
  rw [List.map_append]
  exact row h1 (k H locs ls hLR h2 hrel hS)
theorem px_o_iinc {i : Nat} {n : Int} (hexec : p.tables.exec = Jvm.exec) (hb : c.code = cc) (hd : decode cc pc = .ok (.iinc i n, 3)) (hin : -128 ≤ n ∧ n < 128) {x : Int} (hx : pl[i]? = some (.inl x))
    (h : px_nx (pc + 3) (px_st1 pl i (vI (px_w32 (x + n)))) st s = some (.inl (f', s'))) (k : px_AT p l e R s0 mi args below meth c Q G L xs alw nL e0 t0 f' s') : px_AT p l e R s0 mi args below meth c Q G L xs alw nL e0 t0 (pc, pl, st) s := by
  cases h
  intro H locs ls hLR hok hrel hS
  have hi : i < nL := by rw [← hLR.2.2.1]; exact (List.getElem?_eq_some_iff.mp hx).1
  have hm : (i, Value.int (Int32.ofInt x)) ∈ px_ll G pl := px_ll_mem.mpr ⟨_, hx, (fun h => by cases h), rfl⟩
  obtain ⟨k0, hk0⟩ := List.getElem?_of_mem hm
  have hv : Int32.ofInt x + Int32.ofInt n = Int32.ofInt (px_w32 (x + n)) := by rw [px_o32, Int32.ofInt_add]
  exact lv_iinc hexec hb hd (px_LR_has hLR) hk0 hv hi rfl (fun ls' hl => k H locs ls' (px_LR_st1 hLR hi (px_w32_r _) hl) hok hrel hS)
end PX1
