/-! What a frame of the real machine knows, and what it is to stand where the pure machine stands. -/
def px_tysL (G : PG) : List (ClassId × FieldType) := [(G.2.1 0, .int), (G.2.1 1, .byte), (G.2.1 2, .boolean), (G.2.1 3, .long), (G.2.1 7, .object "TideGuests$Guest"), (G.2.1 15, .object "TideGuests$Text")]
def px_txt : String := "tide wish bill raft bars quarrel or and not minute wind moon rank swim fear bag high level with other wet moves crabs doors "
def px_ENV (G : PG) (L : Nat) (xs alw : Nat → Int32) (SF : State → Heap → Prop) (U : State) (H : Heap) : Prop :=
  va_K G.1 px_cls (px_tysL G) U ∧ (∀ q ∈ px_mlk, q.2.2.2 ≠ 0 → va_Nw (px_mlN q) U) ∧ (va_AO "TideGuests$Guest" U ∧ va_AO "TideGuests$Text" U) ∧ va_X G.2.2.1 L xs U H ∧ va_T .int G.2.2.2.1 6 (fun j => .int (alw j)) (px_A G) U H ∧
  va_Z "TideGuests$Reader" "ALLOWED" "[I" (.ref G.2.2.2.1) (px_A G) U H ∧ vk_R "TideGuests$Reader" 99 px_txt G.2.2.2.2.1 U ∧ SF U H ∧ (G.2.2.1 < px_ba G ∧ G.2.2.2.1 < px_ba G ∧ px_ba G ≤ H.size) ∧
  ((∀ cA, U.vm.findClass "[I" = some cA → cA = G.2.1 0) ∧ (∀ cA, U.vm.findClass "[B" = some cA → cA = G.2.1 1) ∧ (∀ cA, U.vm.findClass "[Z" = some cA → cA = G.2.1 2) ∧ (∀ cA, U.vm.findClass "[J" = some cA → cA = G.2.1 3) ∧ (∀ cA, U.vm.findClass "[LTideGuests$Guest;" = some cA → cA = G.2.1 7) ∧ (∀ cA, U.vm.findClass "[LTideGuests$Text;" = some cA → cA = G.2.1 15))
/-- what is said of a heap stays, when cells of the law's own alone have changed -/
theorem px_ENV_kept {G : PG} {L : Nat} {xs alw : Nat → Int32} {SF : State → Heap → Prop} (hSF : ∀ (U : State) (H H1 : Heap), SF U H → (∀ a : Nat, a < H.size → ¬ px_A G a → H1[a]? = H[a]?) → SF U H1) {U : State} {H H1 : Heap}
    (h : px_ENV G L xs alw SF U H) (hz : H.size ≤ H1.size) (hq : ∀ a : Nat, a < H.size → ¬ px_A G a → H1[a]? = H[a]?) : px_ENV G L xs alw SF U H1 := by
  obtain ⟨h1, h2, h3, h4, h5, h6, h7, h8, h9, h10⟩ := h
  have hb : ¬ px_A G G.2.2.1 := Nat.not_le.mpr h9.1
  exact ⟨h1, h2, h3, h4.kept (hq _ (Nat.lt_of_lt_of_le h9.1 h9.2.2) hb), h5.kept hq, h6.kept hq, h7, hSF U H H1 h8 hq, ⟨h9.1, h9.2.1, Nat.le_trans h9.2.2 hz⟩, h10⟩
theorem px_ENV_warm {G : PG} {L : Nat} {xs alw : Nat → Int32} {SF : State → Heap → Prop} (hSF : ∀ (u U : State) (H : Heap), u.WarmedH U.vm → SF u H → SF U H) {u U : State} {H : Heap} (hW : u.WarmedH U.vm)
    (h : px_ENV G L xs alw SF u H) : px_ENV G L xs alw SF U H := by
  obtain ⟨h1, h2, h3, h4, h5, h6, h7, h8, h9, h10⟩ := h
  have hal := hW.alike
  refine ⟨h1.moved hal, fun q hq hn => va_Nw.warmM hW (h2 q hq hn), ⟨h3.1.moved hal, h3.2.moved hal⟩, h4.moved hal, h5.moved hal, h6.moved hal, h7.warm hW, hSF u U H hW h8, h9, ?_⟩
  rw [hal.findClass, hal.findClass, hal.findClass, hal.findClass, hal.findClass, hal.findClass]
  exact h10
def px_CX (p : Program) (s0 : State) (mi : MethodId) (args : Array Value) (meth : Method) (c : Code) (m : Nat) (G : PG) (L : Nat) (xs alw : Nat → Int32) (SF : State → Heap → Prop) : Prop :=
  p.tables.exec = Jvm.exec ∧ c.code = px_by m ∧ c.maxLocals = px_ml m ∧ s0.vm.findClass (px_own (px_mo m)) = some mi.cls ∧ (∀ w ∈ px_gt, w.before args s0 = true) ∧ (px_kd m = 2 → meth.name = "<init>") ∧ px_ENV G L xs alw SF s0 s0.heap
def px_AT (p : Program) (l : Launch) (e : Env) (R : Room) (s0 : State) (mi : MethodId) (args : Array Value) (below : List Frame) (meth : Method) (c : Code) (Q : State → Prop) (G : PG) (L : Nat) (xs alw : Nat → Int32) (nL e0 t0 : Nat) (f : FR) (s : PM) : Prop :=
  ∀ (H : Heap) (locs : List Loc) (ls : Array Slot), px_LR G ls f.2.1 nL → px_okl f.2.2 → px_rel G L xs alw s H → va_S (px_A G) s0.heap H locs →
    W p l e R s0 mi args below meth c H locs (s.1.length - e0) (s.2.2.2.2 - t0) Q (F0 mi f.1 ls (f.2.2.map (px_tr G)))
def px_len (i : Instr) : Nat := match i with
  | .aload _ | .iload _ | .lload _ | .astore _ | .istore _ | .lstore _ | .bipush _ | .ldc _ | .newarray _ => 2
  | .sipush _ | .iinc _ _ | .goto _ | .ifCond _ _ | .if_icmp _ _ | .ifnull _ | .ifnonnull _ | .getfield _ | .putfield _ | .getstatic _ | .new _ | .anewarray _ | .ldc_w _ | .ldc2_w _ | .invokestatic _ | .invokevirtual _ | .invokespecial _ => 3
  | _ => 1
def px_sw (i : Instr) : Bool := match i with
  | .tableswitch _ _ _ _ => true
  | .lookupswitch _ _ => true
  | _ => false
theorem px_len_all : (List.range 416).all (fun c => (px_ch c).all (fun q => px_sw q.2.1 || q.2.2.1 == px_len q.2.1)) = true := by decide +kernel
/-- what the checked tables give of an instruction -/
theorem px_cod_ok {m pc : Nat} {e : PE} (h : px_cod m pc = some e) : decode (px_by m) pc = .ok (e.1, e.2.1) ∧ px_lk m pc e = true ∧ (px_sw e.1 = false → e.2.1 = px_len e.1) := by
  unfold px_cod at h
  cases hb : Nat.beq (px_cm (px_ci m pc)) m with
  | false => rw [hb] at h; cases h
  | true =>
    rw [hb] at h
    have h1 : px_cm (px_ci m pc) = m := Nat.eq_of_beq_eq_true hb
    cases hc : Nat.ble (px_ci m pc) 415 with
    | false => rw [hc] at h; cases h
    | true =>
      rw [hc] at h
      have h2 := px_look_mem _ _ _ h
      have h3 : px_ci m pc < 416 := by
        have := Nat.le_of_ble_eq_true hc
        omega
      have h4 := List.all_eq_true.mp (px_ck _ h3) _ h2
      rw [h1] at h4
      unfold px_chk at h4
      rw [Bool.and_eq_true] at h4
      have h5 := List.all_eq_true.mp (List.all_eq_true.mp px_len_all _ (List.mem_range.mpr h3)) _ h2
      refine ⟨of_decide_eq_true h4.1, h4.2, fun h6 => ?_⟩
      rw [Bool.or_eq_true] at h5
      rcases h5 with h5 | h5
      · rw [h6] at h5; cases h5
      · exact eq_of_beq h5
