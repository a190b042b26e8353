/-! String.length and String.charAt of the one constant. -/
def zs_pre (aS aV ba : Nat) (as : List Value) : Array Value → State → Prop := fun a U => a = as.toArray ∧ px_SF aS aV ba U U.heap
def zs_post (v : Option Value) : Array Value → State → Outcome → State → Prop := fun _ st o t => o = .returned v ∧ t.heap = st.heap
theorem zs_SF_w {aS aV ba : Nat} {u U : State} {H : Heap} (hW : u.WarmedH U.vm) (h : px_SF aS aV ba u H) : px_SF aS aV ba U H := ⟨h.1.moved hW.alike, h.2.1.moved hW.alike, h.2.2.moved hW.alike⟩
theorem zs_blind {aS aV ba : Nat} {as : List Value} : FrameBlind (zs_pre aS aV ba as) := fun a U g mk q => ⟨q.1, zs_SF_w (u := U) (U := U.calling g mk a) (State.WarmedH.refl U) q.2⟩
def zs_S : String := "java/lang/String"
def zs_yco : MethodName := ⟨"java/lang/String", "coder", "()B"⟩
def zs_yla : MethodName := ⟨"java/lang/String", "isLatin1", "()Z"⟩
def zs_yci : MethodName := ⟨"java/lang/String", "checkIndex", "(II)V"⟩
def zs_ypc : MethodName := ⟨"jdk/internal/util/Preconditions", "checkIndex", "(IILjava/util/function/BiFunction;)I"⟩
def zs_ylc : MethodName := ⟨"java/lang/StringLatin1", "charAt", "([BI)C"⟩
theorem zs_w104 : Cond.initialized "java/lang/String" ∈ px_gt := px_at_mem (p := 104) (by decide +kernel)
theorem zs_w105 : Cond.initialized "java/lang/StringLatin1" ∈ px_gt := px_at_mem (p := 105) (by decide +kernel)
theorem zs_w106 : Cond.initialized "jdk/internal/util/Preconditions" ∈ px_gt := px_at_mem (p := 106) (by decide +kernel)
theorem zs_w729 : Cond.methodLink "java/lang/String" 335 zs_yco ∈ px_gt := px_at_mem (p := 729) (by decide +kernel)
theorem zs_w730 : Cond.instanceMethod zs_yco ∈ px_gt := px_at_mem (p := 730) (by decide +kernel)
theorem zs_w731 : Cond.selects "java/lang/String" zs_yco zs_yco ∈ px_gt := px_at_mem (p := 731) (by decide +kernel)
theorem zs_w732 : Cond.code zs_yco prog_19_method_152_code 1 (some .byte) ∈ px_gt := px_at_mem (p := 732) (by decide +kernel)
theorem zs_w733 : Cond.fieldLink "java/lang/String" 38 "java/lang/String" "COMPACT_STRINGS" "Z" ∈ px_gt := px_at_mem (p := 733) (by decide +kernel)
theorem zs_w739 : Cond.methodLink "java/lang/String" 492 zs_yla ∈ px_gt := px_at_mem (p := 739) (by decide +kernel)
theorem zs_w740 : Cond.instanceMethod zs_yla ∈ px_gt := px_at_mem (p := 740) (by decide +kernel)
theorem zs_w741 : Cond.selects "java/lang/String" zs_yla zs_yla ∈ px_gt := px_at_mem (p := 741) (by decide +kernel)
theorem zs_w742 : Cond.code zs_yla prog_19_method_154_code 1 (some .boolean) ∈ px_gt := px_at_mem (p := 742) (by decide +kernel)
theorem zs_w743 : Cond.methodLink "java/lang/String" 495 zs_ylc ∈ px_gt := px_at_mem (p := 743) (by decide +kernel)
theorem zs_w744 : Cond.static zs_ylc ∈ px_gt := px_at_mem (p := 744) (by decide +kernel)
theorem zs_w745 : Cond.code zs_ylc prog_20_method_2_code 2 (some .char) ∈ px_gt := px_at_mem (p := 745) (by decide +kernel)
theorem zs_w746 : Cond.methodLink "java/lang/StringLatin1" 9 zs_yci ∈ px_gt := px_at_mem (p := 746) (by decide +kernel)
theorem zs_w747 : Cond.static zs_yci ∈ px_gt := px_at_mem (p := 747) (by decide +kernel)
theorem zs_w748 : Cond.code zs_yci prog_19_method_155_code 2 none ∈ px_gt := px_at_mem (p := 748) (by decide +kernel)
theorem zs_w749 : Cond.fieldLink "java/lang/String" 1053 "jdk/internal/util/Preconditions" "SIOOBE_FORMATTER" "Ljava/util/function/BiFunction;" ∈ px_gt := px_at_mem (p := 749) (by decide +kernel)
theorem zs_w751 : Cond.methodLink "java/lang/String" 1059 zs_ypc ∈ px_gt := px_at_mem (p := 751) (by decide +kernel)
theorem zs_w752 : Cond.static zs_ypc ∈ px_gt := px_at_mem (p := 752) (by decide +kernel)
theorem zs_w753 : Cond.code zs_ypc prog_24_method_11_code 3 (some .int) ∈ px_gt := px_at_mem (p := 753) (by decide +kernel)
theorem zs_wval : Cond.fieldLink "java/lang/String" 9 "java/lang/String" "value" "[B" ∈ px_gt := px_at_mem (p := 1848) (by decide +kernel)
theorem zs_wcod : Cond.fieldLink "java/lang/String" 15 "java/lang/String" "coder" "B" ∈ px_gt := px_at_mem (p := 1849) (by decide +kernel)
-- decode
theorem zd_co_0 : decode prog_19_method_152_code 0 = .ok (.getstatic 38, 3) := by decide +kernel
theorem zd_co_3 : decode prog_19_method_152_code 3 = .ok (.ifCond .eq 10, 3) := by decide +kernel
theorem zd_co_6 : decode prog_19_method_152_code 6 = .ok (.aload_n 0, 1) := by decide +kernel
theorem zd_co_7 : decode prog_19_method_152_code 7 = .ok (.getfield 15, 3) := by decide +kernel
theorem zd_co_10 : decode prog_19_method_152_code 10 = .ok (.goto 4, 3) := by decide +kernel
theorem zd_co_14 : decode prog_19_method_152_code 14 = .ok (.ireturn, 1) := by decide +kernel
theorem zd_la_0 : decode prog_19_method_154_code 0 = .ok (.getstatic 38, 3) := by decide +kernel
theorem zd_la_3 : decode prog_19_method_154_code 3 = .ok (.ifCond .eq 14, 3) := by decide +kernel
theorem zd_la_6 : decode prog_19_method_154_code 6 = .ok (.aload_n 0, 1) := by decide +kernel
theorem zd_la_7 : decode prog_19_method_154_code 7 = .ok (.getfield 15, 3) := by decide +kernel
theorem zd_la_10 : decode prog_19_method_154_code 10 = .ok (.ifCond .ne 7, 3) := by decide +kernel
theorem zd_la_13 : decode prog_19_method_154_code 13 = .ok (.iconst 1, 1) := by decide +kernel
theorem zd_la_14 : decode prog_19_method_154_code 14 = .ok (.goto 4, 3) := by decide +kernel
theorem zd_la_18 : decode prog_19_method_154_code 18 = .ok (.ireturn, 1) := by decide +kernel
theorem zd_le_0 : decode prog_19_method_54_code 0 = .ok (.aload_n 0, 1) := by decide +kernel
theorem zd_le_1 : decode prog_19_method_54_code 1 = .ok (.getfield 9, 3) := by decide +kernel
theorem zd_le_4 : decode prog_19_method_54_code 4 = .ok (.arraylength, 1) := by decide +kernel
theorem zd_le_5 : decode prog_19_method_54_code 5 = .ok (.aload_n 0, 1) := by decide +kernel
theorem zd_le_6 : decode prog_19_method_54_code 6 = .ok (.invokevirtual 335, 3) := by decide +kernel
theorem zd_le_9 : decode prog_19_method_54_code 9 = .ok (.ishr, 1) := by decide +kernel
theorem zd_le_10 : decode prog_19_method_54_code 10 = .ok (.ireturn, 1) := by decide +kernel
theorem zd_ca_0 : decode prog_19_method_56_code 0 = .ok (.aload_n 0, 1) := by decide +kernel
theorem zd_ca_1 : decode prog_19_method_56_code 1 = .ok (.invokevirtual 492, 3) := by decide +kernel
theorem zd_ca_4 : decode prog_19_method_56_code 4 = .ok (.ifCond .eq 12, 3) := by decide +kernel
theorem zd_ca_7 : decode prog_19_method_56_code 7 = .ok (.aload_n 0, 1) := by decide +kernel
theorem zd_ca_8 : decode prog_19_method_56_code 8 = .ok (.getfield 9, 3) := by decide +kernel
theorem zd_ca_11 : decode prog_19_method_56_code 11 = .ok (.iload_n 1, 1) := by decide +kernel
theorem zd_ca_12 : decode prog_19_method_56_code 12 = .ok (.invokestatic 495, 3) := by decide +kernel
theorem zd_ca_15 : decode prog_19_method_56_code 15 = .ok (.ireturn, 1) := by decide +kernel
theorem zd_ci_0 : decode prog_19_method_155_code 0 = .ok (.iload_n 0, 1) := by decide +kernel
theorem zd_ci_1 : decode prog_19_method_155_code 1 = .ok (.iload_n 1, 1) := by decide +kernel
theorem zd_ci_2 : decode prog_19_method_155_code 2 = .ok (.getstatic 1053, 3) := by decide +kernel
theorem zd_ci_5 : decode prog_19_method_155_code 5 = .ok (.invokestatic 1059, 3) := by decide +kernel
theorem zd_ci_8 : decode prog_19_method_155_code 8 = .ok (.pop, 1) := by decide +kernel
theorem zd_ci_9 : decode prog_19_method_155_code 9 = .ok (.return_, 1) := by decide +kernel
theorem zd_pc_0 : decode prog_24_method_11_code 0 = .ok (.iload_n 0, 1) := by decide +kernel
theorem zd_pc_1 : decode prog_24_method_11_code 1 = .ok (.ifCond .lt 8, 3) := by decide +kernel
theorem zd_pc_4 : decode prog_24_method_11_code 4 = .ok (.iload_n 0, 1) := by decide +kernel
theorem zd_pc_5 : decode prog_24_method_11_code 5 = .ok (.iload_n 1, 1) := by decide +kernel
theorem zd_pc_6 : decode prog_24_method_11_code 6 = .ok (.if_icmp .lt 10, 3) := by decide +kernel
theorem zd_pc_16 : decode prog_24_method_11_code 16 = .ok (.iload_n 0, 1) := by decide +kernel
theorem zd_pc_17 : decode prog_24_method_11_code 17 = .ok (.ireturn, 1) := by decide +kernel
theorem zd_lc_0 : decode prog_20_method_2_code 0 = .ok (.iload_n 1, 1) := by decide +kernel
theorem zd_lc_1 : decode prog_20_method_2_code 1 = .ok (.aload_n 0, 1) := by decide +kernel
theorem zd_lc_2 : decode prog_20_method_2_code 2 = .ok (.arraylength, 1) := by decide +kernel
theorem zd_lc_3 : decode prog_20_method_2_code 3 = .ok (.invokestatic 9, 3) := by decide +kernel
theorem zd_lc_6 : decode prog_20_method_2_code 6 = .ok (.aload_n 0, 1) := by decide +kernel
theorem zd_lc_7 : decode prog_20_method_2_code 7 = .ok (.iload_n 1, 1) := by decide +kernel
theorem zd_lc_8 : decode prog_20_method_2_code 8 = .ok (.baload, 1) := by decide +kernel
theorem zd_lc_9 : decode prog_20_method_2_code 9 = .ok (.sipush 255, 3) := by decide +kernel
theorem zd_lc_12 : decode prog_20_method_2_code 12 = .ok (.iand, 1) := by decide +kernel
theorem zd_lc_13 : decode prog_20_method_2_code 13 = .ok (.i2c, 1) := by decide +kernel
theorem zd_lc_14 : decode prog_20_method_2_code 14 = .ok (.ireturn, 1) := by decide +kernel
-- numbers
theorem zs_num : ∀ k : Fin 124, (¬ (Int32.ofInt (k.val : Int) < 0) ∧ Int32.ofInt (k.val : Int) < Int32.ofNat 124 ∧ (Int32.ofInt (k.val : Int)).toNatClampNeg = k.val) ∧ (((px_byt.getD k.val 0) &&& 255).toUInt32 % 65536).toInt32 = Int32.ofInt ((px_words.getD k.val 0 : Nat) : Int) ∧ narrow .char (.int (Int32.ofInt ((px_words.getD k.val 0 : Nat) : Int))) = .int (Int32.ofInt ((px_words.getD k.val 0 : Nat) : Int)) := by decide +kernel
theorem zs_124 : Int32.ofNat 124 >>> ((0 : Int32) &&& 31) = Int32.ofInt ((px_words.length : Nat) : Int) := by decide +kernel
def zs_rm (f w : Nat) : Room := { frames := f, cells := 0, slots := 0, locals := w }
section ZSC
variable {p : Program} {l : Launch} {e : Env} {R : Room} {s : State} {m : MethodId} {args : Array Value} {below : List Frame} {meth : Method} {c : Code} {Q : State → Prop} {aS aV ba : Nat}
/-- a call of a static method that changes nothing -/
theorem zs_callS {own : String} {cc bytes : ByteArray} {nL index ml n pc : Nat} {y : MethodName} {ret : Option FieldType} {rm : Room} {v : Option Value} {As rest : List Value} {ls : Array Slot} (S : CallFix p m c cc nL s args px_gt own) (hM : Met l y (.code y bytes ml ret :: px_gt) rm (zs_pre aS aV ba As) (zs_post v) 0 0 (fun _ => False)) (hSF : px_SF aS aV ba s s.heap)
    (hw : Cond.methodLink own index y ∈ px_gt) (hst : Cond.static y ∈ px_gt) (hini : Cond.initialized y.cls ∈ px_gt) (hco : Cond.code y bytes ml ret ∈ px_gt) (hrc : rm.cells = 0) (hrs : rm.slots = 0) (hy : y.cls ≠ "java/lang/invoke/MethodHandle" ∧ y.cls ≠ "java/lang/invoke/VarHandle" ∧ (parseMethodDescriptor y.desc).map (fun d => d.parameters.length) = some n) (hR : rm.frames + 1 ≤ R.frames ∧ 8 + (ml + 11) + rm.locals ≤ R.locals)
    (hn : As.length = n) (hls : ls.size = nL) (hcat : (rest.map fun v => v.category).sum ≤ 8) (hd : decode cc pc = .ok (.invokestatic index, 3))
    (k : W p l e R s m args below meth c s.heap [] 0 0 Q (F0 m (pc + 3) ls (v.toList ++ rest))) : W p l e R s m args below meth c s.heap [] 0 0 Q (F0 m pc ls (As.reverse ++ rest)) := by
  have hcw := va_cwS (R := R) (s := s) (args := args) (own := own) (index := index) (y := y) (bytes := bytes) (maxL := ml) (ret := ret) (rm := rm) (mc := 0) (ms := 0) n S.2.2.2.2 (px_goodIn (ws := va_wsS own index y (.code y bytes ml ret :: px_gt)) (by
      intro w hw'
      unfold va_wsS at hw'
      rcases List.mem_append.mp hw' with h | h
      · simp only [List.mem_cons, List.not_mem_nil, or_false] at h
        rcases h with rfl | rfl | rfl
        · exact hw
        · exact hst
        · exact hini
      · rcases List.mem_cons.mp h with rfl | h
        · exact hco
        · exact h)) rfl hrc hrs hy hR
  have hrun := va_runS (p := p) (l := l) (e := e) (R := R) (s := s) (m := m) (args := args) (below := below) (meth := meth) (c := c) (H := s.heap) (locs := []) (cells := 0) (slots := 0) (nL := nL) (As := As) (rest := rest) (g := F0 m pc ls (As.reverse ++ rest)) S hM hcw ⟨zs_blind, fun U hU hW => ⟨rfl, by
    rw [hU]
    exact zs_SF_w hW hSF⟩⟩ rfl hn hls rfl (lv_room hcat) hd ⟨Nat.zero_le _, Nat.zero_le _⟩
  intro T hT X
  obtain ⟨v9, st₀, t, T', L9, h0, X', hL, e1, e2, ⟨hv, hz⟩, stp⟩ := hrun T hT X
  have hv9 : v9 = v := Outcome.returned.inj hv
  subst hv9
  have hL9 : L9 = [] := List.eq_nil_iff_forall_not_mem.mpr (fun q hq => hL q hq)
  subst hL9
  obtain ⟨t2, a1, b1⟩ := k T' (by rw [e1, hz, h0]) X'
  exact ⟨t2, stp t2 a1, b1⟩
/-- a call of a method of the constant that changes nothing -/
theorem zs_callV {cc bytes : ByteArray} {nL index ml n pc : Nat} {y : MethodName} {ret : Option FieldType} {rm : Room} {v : Option Value} {As rest : List Value} {ls : Array Slot} (S : CallFix p m c cc nL s args px_gt "java/lang/String") (hM : Met l y (.code y bytes ml ret :: px_gt) rm (zs_pre aS aV ba (.ref aS :: As)) (zs_post v) 0 0 (fun _ => False)) (hSF : px_SF aS aV ba s s.heap)
    (hw : Cond.methodLink "java/lang/String" index y ∈ px_gt) (hin : Cond.instanceMethod y ∈ px_gt) (hse : Cond.selects "java/lang/String" y y ∈ px_gt) (hco : Cond.code y bytes ml ret ∈ px_gt) (hrc : rm.cells = 0) (hrs : rm.slots = 0) (hy : y.cls = "java/lang/String" ∧ y.cls ≠ "java/lang/invoke/MethodHandle" ∧ y.cls ≠ "java/lang/invoke/VarHandle" ∧ (parseMethodDescriptor y.desc).map (fun d => d.parameters.length) = some n) (hR : rm.frames + 1 ≤ R.frames ∧ 8 + (ml + 11) + rm.locals ≤ R.locals)
    (hn : As.length = n) (hls : ls.size = nL) (hcat : (rest.map fun v => v.category).sum ≤ 8) (hd : decode cc pc = .ok (.invokevirtual index, 3))
    (k : W p l e R s m args below meth c s.heap [] 0 0 Q (F0 m (pc + 3) ls (v.toList ++ rest))) : W p l e R s m args below meth c s.heap [] 0 0 Q (F0 m pc ls (As.reverse ++ .ref aS :: rest)) := by
  have hcw := cwV (R := R) (s := s) (args := args) (own := "java/lang/String") (C := "java/lang/String") (index := index) (y := y) (bytes := bytes) (maxL := ml) (ret := ret) (rm := rm) (mc := 0) (ms := 0) n S.2.2.2.2 (px_goodIn (ws := wsV "java/lang/String" index "java/lang/String" y (.code y bytes ml ret :: px_gt)) (by
      intro w hw'
      unfold wsV at hw'
      rcases List.mem_append.mp hw' with h | h
      · simp only [List.mem_cons, List.not_mem_nil, or_false] at h
        rcases h with rfl | rfl | rfl | rfl
        · exact hw
        · exact hin
        · exact hse
        · exact zs_w104
      · rcases List.mem_cons.mp h with rfl | h
        · exact hco
        · exact h)) rfl hrc hrs hy hR
  obtain ⟨cell, c1, c2, c3, -⟩ := (hSF.1.1 0 (by decide)).1
  have hrun := va_runV (p := p) (l := l) (e := e) (R := R) (s := s) (m := m) (args := args) (below := below) (meth := meth) (c := c) (H := s.heap) (locs := []) (cells := 0) (slots := 0) (nL := nL) (b := aS) (As := As) (rest := rest) (g := F0 m pc ls (As.reverse ++ .ref aS :: rest)) S hM hcw ⟨zs_blind, ⟨cell, c1, c2, c3⟩, fun U hU hW => ⟨rfl, by
    rw [hU]
    exact zs_SF_w hW hSF⟩⟩ rfl hn hls rfl (lv_room hcat) hd ⟨Nat.zero_le _, Nat.zero_le _⟩
  intro T hT X
  obtain ⟨v9, st₀, t, T', L9, h0, X', hL, e1, e2, ⟨hv, hz⟩, stp⟩ := hrun T hT X
  have hv9 : v9 = v := Outcome.returned.inj hv
  subst hv9
  have hL9 : L9 = [] := List.eq_nil_iff_forall_not_mem.mpr (fun q hq => hL q hq)
  subst hL9
  obtain ⟨t2, a1, b1⟩ := k T' (by rw [e1, hz, h0]) X'
  exact ⟨t2, stp t2 a1, b1⟩
end ZSC
section ZSM
variable (l : Launch) {aS aV ba : Nat}
/-- coder -/
theorem zs_co : Met l zs_yco (.code zs_yco prog_19_method_152_code 1 (some .byte) :: px_gt) (zs_rm 0 0) (zs_pre aS aV ba [.ref aS]) (zs_post (some (.int 0))) 0 0 (fun _ => False) := by
  refine Met.ofW (cc := prog_19_method_152_code) (maxL := 1) (ret := some .byte) (by decide) rfl ?_
  intro p e s m args below meth c s₁ B hml hv
  obtain ⟨rfl, hSF⟩ := hv
  have hx := B.exec
  have hb := B.bytes
  have hr := B.returns
  have hts : ∀ w ∈ px_gt, w.before _ s = true := fun w hw => atoms_spec (ws := .code zs_yco prog_19_method_152_code 1 (some .byte) :: px_gt) B.pre w (List.mem_cons_of_mem _ hw)
  have hown : s.vm.findClass "java/lang/String" = some m.cls := findClass_of_methodNamed B.named
  have hlocks := B.notSynchronized
  have hl := lv_entry ([.ref aS]) (n := 1) (Nat.le_of_ble_eq_true rfl)
  rw [lg_entry_eq]
  generalize (lg_sl ([.ref aS]) ++ List.replicate (1 - (lg_sl ([.ref aS])).length) Slot.unset).toArray = ls at hl ⊢
  have hl : lv_has ls 1 [(0, .ref aS)] := hl
  refine va_gets (A := fun q => ba ≤ q) hx hb hSF.2.1 va_S.rf hown (hts _ zs_w733) (fun _ h => h) zd_co_0 ?_
  refine lv_if_eq hx hb zd_co_3 (tgt := 13) (by decide) (fun h => absurd h (by decide)) (fun _ => ?_)
  refine lv_aload_n hx hb zd_co_6 rfl (lv_at hl 0 rfl) ?_
  refine vk_getf (A := fun q => ba ≤ q) hx hb (hSF.1.1 0 (by decide)).2.1 va_S.rf hown (hts _ zs_wcod) (fun _ h => h) zd_co_7 ?_
  refine lv_goto hx hb zd_co_10 (tgt := 14) (by decide) ?_
  exact W.zret hx hb hr (by decide) (fun t ht _ => ⟨rfl, ht⟩) (fun q hq => absurd hq List.not_mem_nil) zd_co_14
/-- isLatin1 -/
theorem zs_la : Met l zs_yla (.code zs_yla prog_19_method_154_code 1 (some .boolean) :: px_gt) (zs_rm 0 0) (zs_pre aS aV ba [.ref aS]) (zs_post (some (.int 1))) 0 0 (fun _ => False) := by
  refine Met.ofW (cc := prog_19_method_154_code) (maxL := 1) (ret := some .boolean) (by decide) rfl ?_
  intro p e s m args below meth c s₁ B hml hv
  obtain ⟨rfl, hSF⟩ := hv
  have hx := B.exec
  have hb := B.bytes
  have hr := B.returns
  have hts : ∀ w ∈ px_gt, w.before _ s = true := fun w hw => atoms_spec (ws := .code zs_yla prog_19_method_154_code 1 (some .boolean) :: px_gt) B.pre w (List.mem_cons_of_mem _ hw)
  have hown : s.vm.findClass "java/lang/String" = some m.cls := findClass_of_methodNamed B.named
  have hlocks := B.notSynchronized
  have hl := lv_entry ([.ref aS]) (n := 1) (Nat.le_of_ble_eq_true rfl)
  rw [lg_entry_eq]
  generalize (lg_sl ([.ref aS]) ++ List.replicate (1 - (lg_sl ([.ref aS])).length) Slot.unset).toArray = ls at hl ⊢
  have hl : lv_has ls 1 [(0, .ref aS)] := hl
  refine va_gets (A := fun q => ba ≤ q) hx hb hSF.2.1 va_S.rf hown (hts _ zs_w733) (fun _ h => h) zd_la_0 ?_
  refine lv_if_eq hx hb zd_la_3 (tgt := 17) (by decide) (fun h => absurd h (by decide)) (fun _ => ?_)
  refine lv_aload_n hx hb zd_la_6 rfl (lv_at hl 0 rfl) ?_
  refine vk_getf (A := fun q => ba ≤ q) hx hb (hSF.1.1 0 (by decide)).2.1 va_S.rf hown (hts _ zs_wcod) (fun _ h => h) zd_la_7 ?_
  refine lv_if_ne hx hb zd_la_10 (tgt := 17) (by decide) (fun h => absurd rfl h) (fun _ => ?_)
  refine lv_iconst hx hb zd_la_13 rfl ?_
  refine lv_goto hx hb zd_la_14 (tgt := 18) (by decide) ?_
  exact W.zret hx hb hr (by decide) (fun t ht _ => ⟨rfl, ht⟩) (fun q hq => absurd hq List.not_mem_nil) zd_la_18
/-- length -/
theorem zs_le : Met l (px_iy 3) px_wq3 px_rmS (zs_pre aS aV ba [.ref aS]) (zs_post (some (.int (Int32.ofInt ((px_words.length : Nat) : Int))))) 0 0 (fun _ => False) := by
  refine Met.ofW (cc := prog_19_method_54_code) (maxL := 1) (ret := some .int) (by decide) rfl ?_
  intro p e s m args below meth c s₁ B hml hv
  obtain ⟨rfl, hSF⟩ := hv
  have hx := B.exec
  have hb := B.bytes
  have hr := B.returns
  have hts : ∀ w ∈ px_gt, w.before _ s = true := fun w hw => atoms_spec (ws := px_wq3) B.pre w (List.mem_cons_of_mem _ hw)
  have hown : s.vm.findClass "java/lang/String" = some m.cls := findClass_of_methodNamed B.named
  have hlocks := B.notSynchronized
  have hl := lv_entry ([.ref aS]) (n := 1) (Nat.le_of_ble_eq_true rfl)
  rw [lg_entry_eq]
  generalize (lg_sl ([.ref aS]) ++ List.replicate (1 - (lg_sl ([.ref aS])).length) Slot.unset).toArray = ls at hl ⊢
  have hl : lv_has ls 1 [(0, .ref aS)] := hl
  refine lv_aload_n hx hb zd_le_0 rfl (lv_at hl 0 rfl) ?_
  refine vk_getf (A := fun q => ba ≤ q) hx hb (hSF.1.1 0 (by decide)).2.2.1 va_S.rf hown (hts _ zs_wval) (fun _ h => h) zd_le_1 ?_
  refine va_tlen (A := fun q => ba ≤ q) (v := Int32.ofNat 124) hx hb (hSF.1.1 0 (by decide)).2.2.2 va_S.rf rfl zd_le_4 ?_
  refine lv_aload_n hx hb zd_le_5 rfl (lv_at hl 0 rfl) ?_
  refine zs_callV (As := []) ⟨hx, hb, hml, hown, hts⟩ (zs_co l) hSF zs_w729 zs_w730 zs_w731 zs_w732 rfl rfl ⟨rfl, by decide, by decide, by decide +kernel⟩ ⟨by decide, by decide⟩ rfl hl.1 (by decide) zd_le_6 ?_
  refine lv_ishr hx hb zd_le_9 ?_
  exact W.iret hx hb hr (fun t ht _ => ⟨congrArg (fun z => Outcome.returned (some (Value.int z))) zs_124, ht⟩) (fun q hq => absurd hq List.not_mem_nil) zd_le_10
/-- Preconditions.checkIndex -/
theorem zs_pc {k : Nat} (hk : k < 124) {fv : Value} (hfv : fv = .null ∨ ∃ t, fv = .ref t) : Met l zs_ypc (.code zs_ypc prog_24_method_11_code 3 (some .int) :: px_gt) (zs_rm 0 0) (zs_pre aS aV ba [.int (Int32.ofInt (k : Int)), .int (Int32.ofNat 124), fv]) (zs_post (some (.int (Int32.ofInt (k : Int))))) 0 0 (fun _ => False) := by
  have hnum := (zs_num ⟨k, hk⟩).1
  refine Met.ofW (cc := prog_24_method_11_code) (maxL := 3) (ret := some .int) (by decide) rfl ?_
  intro p e s m args below meth c s₁ B hml hv
  obtain ⟨rfl, hSF⟩ := hv
  have hx := B.exec
  have hb := B.bytes
  have hr := B.returns
  have hlocks := B.notSynchronized
  have go : ∀ ls : Array Slot, lv_has ls 3 [(0, .int (Int32.ofInt (k : Int))), (1, .int (Int32.ofNat 124))] → W p l e (zs_rm 0 0) s m ([Value.int (Int32.ofInt (k : Int)), .int (Int32.ofNat 124), fv]).toArray below meth c s.heap [] 0 0 (MQ below (zs_post (some (.int (Int32.ofInt (k : Int))))) ([Value.int (Int32.ofInt (k : Int)), .int (Int32.ofNat 124), fv]).toArray s 0 0 (fun _ => False)) (F0 m 0 ls []) := fun ls hl => by
    refine lv_iload_n hx hb zd_pc_0 rfl (lv_at hl 0 rfl) ?_
    refine lv_if_lt hx hb zd_pc_1 (tgt := 9) (by decide) (fun h => absurd h hnum.1) (fun _ => ?_)
    refine lv_iload_n hx hb zd_pc_4 rfl (lv_at hl 0 rfl) ?_
    refine lv_iload_n hx hb zd_pc_5 rfl (lv_at hl 1 rfl) ?_
    refine lv_icmp_lt hx hb zd_pc_6 (tgt := 16) (by decide) (fun _ => ?_) (fun h => absurd hnum.2.1 h)
    refine lv_iload_n hx hb zd_pc_16 rfl (lv_at hl 0 rfl) ?_
    exact W.iret hx hb hr (fun t ht _ => ⟨rfl, ht⟩) (fun q hq => absurd hq List.not_mem_nil) zd_pc_17
  rcases hfv with rfl | ⟨t, rfl⟩
  · have hl := lv_entry ([.int (Int32.ofInt (k : Int)), .int (Int32.ofNat 124), .null]) (n := 3) (Nat.le_of_ble_eq_true rfl)
    rw [lg_entry_eq]
    exact go _ (lv_sub hl [0, 1] rfl)
  · have hl := lv_entry ([.int (Int32.ofInt (k : Int)), .int (Int32.ofNat 124), .ref t]) (n := 3) (Nat.le_of_ble_eq_true rfl)
    rw [lg_entry_eq]
    exact go _ (lv_sub hl [0, 1] rfl)
/-- String.checkIndex -/
theorem zs_ci {k : Nat} (hk : k < 124) : Met l zs_yci (.code zs_yci prog_19_method_155_code 2 none :: px_gt) (zs_rm 1 60) (zs_pre aS aV ba [.int (Int32.ofInt (k : Int)), .int (Int32.ofNat 124)]) (zs_post none) 0 0 (fun _ => False) := by
  refine Met.ofW (cc := prog_19_method_155_code) (maxL := 2) (ret := none) (by decide) rfl ?_
  intro p e s m args below meth c s₁ B hml hv
  obtain ⟨rfl, hSF⟩ := hv
  have hx := B.exec
  have hb := B.bytes
  have hr := B.returns
  have hts : ∀ w ∈ px_gt, w.before _ s = true := fun w hw => atoms_spec (ws := .code zs_yci prog_19_method_155_code 2 none :: px_gt) B.pre w (List.mem_cons_of_mem _ hw)
  have hown : s.vm.findClass "java/lang/String" = some m.cls := findClass_of_methodNamed B.named
  have hlocks := B.notSynchronized
  have hl := lv_entry ([.int (Int32.ofInt (k : Int)), .int (Int32.ofNat 124)]) (n := 2) (Nat.le_of_ble_eq_true rfl)
  rw [lg_entry_eq]
  generalize (lg_sl ([.int (Int32.ofInt (k : Int)), .int (Int32.ofNat 124)]) ++ List.replicate (2 - (lg_sl ([.int (Int32.ofInt (k : Int)), .int (Int32.ofNat 124)])).length) Slot.unset).toArray = ls at hl ⊢
  have hl : lv_has ls 2 [(0, .int (Int32.ofInt (k : Int))), (1, .int (Int32.ofNat 124))] := hl
  refine lv_iload_n hx hb zd_ci_0 rfl (lv_at hl 0 rfl) ?_
  refine lv_iload_n hx hb zd_ci_1 rfl (lv_at hl 1 rfl) ?_
  have go : ∀ fv : Value, (fv = .null ∨ ∃ t, fv = .ref t) → fv.category = 1 → va_Z "jdk/internal/util/Preconditions" "SIOOBE_FORMATTER" "Ljava/util/function/BiFunction;" fv (fun q => ba ≤ q) s s.heap → W p l e (zs_rm 1 60) s m ([Value.int (Int32.ofInt (k : Int)), .int (Int32.ofNat 124)]).toArray below meth c s.heap [] 0 0 (MQ below (zs_post none) ([Value.int (Int32.ofInt (k : Int)), .int (Int32.ofNat 124)]).toArray s 0 0 (fun _ => False)) (F0 m 2 ls [.int (Int32.ofNat 124), .int (Int32.ofInt (k : Int))]) := fun fv hfv hcat hZ => by
    refine va_gets (A := fun q => ba ≤ q) hx hb hZ va_S.rf hown (hts _ zs_w749) (fun _ h => h) zd_ci_2 ?_
    refine zs_callS (n := 3) (As := [.int (Int32.ofInt (k : Int)), .int (Int32.ofNat 124), fv]) (rest := []) ⟨hx, hb, hml, hown, hts⟩ (zs_pc l hk hfv) hSF zs_w751 zs_w752 zs_w106 zs_w753 rfl rfl ⟨by decide, by decide, by decide +kernel⟩ ⟨by decide, by decide⟩ rfl hl.1 (by decide) zd_ci_5 ?_
    refine lv_pop hx hb zd_ci_8 rfl ?_
    exact W.vret hx hb hr (fun t ht _ => ⟨rfl, ht⟩) (fun q hq => absurd hq List.not_mem_nil) zd_ci_9
  rcases hSF.2.2 with hZ | ⟨t, hZ⟩
  · exact go _ (Or.inl rfl) rfl hZ
  · exact go _ (Or.inr ⟨t, rfl⟩) rfl hZ
/-- StringLatin1.charAt -/
theorem zs_lc {k : Nat} (hk : k < 124) : Met l zs_ylc (.code zs_ylc prog_20_method_2_code 2 (some .char) :: px_gt) (zs_rm 2 120) (zs_pre aS aV ba [.ref aV, .int (Int32.ofInt (k : Int))]) (zs_post (some (.int (Int32.ofInt ((px_words.getD k 0 : Nat) : Int))))) 0 0 (fun _ => False) := by
  obtain ⟨hnum, hval, hnar⟩ := zs_num ⟨k, hk⟩
  dsimp only at hnum hval hnar
  refine Met.ofW (cc := prog_20_method_2_code) (maxL := 2) (ret := some .char) (by decide) rfl ?_
  intro p e s m args below meth c s₁ B hml hv
  obtain ⟨rfl, hSF⟩ := hv
  have hx := B.exec
  have hb := B.bytes
  have hr := B.returns
  have hts : ∀ w ∈ px_gt, w.before _ s = true := fun w hw => atoms_spec (ws := .code zs_ylc prog_20_method_2_code 2 (some .char) :: px_gt) B.pre w (List.mem_cons_of_mem _ hw)
  have hown : s.vm.findClass "java/lang/StringLatin1" = some m.cls := findClass_of_methodNamed B.named
  have hlocks := B.notSynchronized
  have hl := lv_entry ([.ref aV, .int (Int32.ofInt (k : Int))]) (n := 2) (Nat.le_of_ble_eq_true rfl)
  rw [lg_entry_eq]
  generalize (lg_sl ([.ref aV, .int (Int32.ofInt (k : Int))]) ++ List.replicate (2 - (lg_sl ([.ref aV, .int (Int32.ofInt (k : Int))])).length) Slot.unset).toArray = ls at hl ⊢
  have hl : lv_has ls 2 [(0, .ref aV), (1, .int (Int32.ofInt (k : Int)))] := hl
  refine lv_iload_n hx hb zd_lc_0 rfl (lv_at hl 1 rfl) ?_
  refine lv_aload_n hx hb zd_lc_1 rfl (lv_at hl 0 rfl) ?_
  refine va_tlen (A := fun q => ba ≤ q) (v := Int32.ofNat 124) hx hb (hSF.1.1 0 (by decide)).2.2.2 va_S.rf rfl zd_lc_2 ?_
  refine zs_callS (n := 2) (As := [.int (Int32.ofInt (k : Int)), .int (Int32.ofNat 124)]) (rest := []) ⟨hx, hb, hml, hown, hts⟩ (zs_ci l hk) hSF zs_w746 zs_w747 zs_w104 zs_w748 rfl rfl ⟨by decide, by decide, by decide +kernel⟩ ⟨by decide, by decide⟩ rfl hl.1 (by decide) zd_lc_3 ?_
  refine lv_aload_n hx hb zd_lc_6 rfl (lv_at hl 0 rfl) ?_
  refine lv_iload_n hx hb zd_lc_7 rfl (lv_at hl 1 rfl) ?_
  refine va_tb (A := fun q => ba ≤ q) (v := .int (px_byt.getD k 0)) hx hb (hSF.1.1 0 (by decide)).2.2.2 va_S.rf (fun h => by
    rcases h with h | h
    · exact hnum.1 h
    · rw [hnum.2.2] at h
      have : ([124] : List Nat).getD 0 0 = 124 := rfl
      omega) (by rw [hnum.2.2]; rfl) zd_lc_8 ?_
  refine lv_sipush hx hb zd_lc_9 rfl ?_
  refine lv_iand hx hb zd_lc_12 ?_
  refine lv_i2c hx hb zd_lc_13 hval ?_
  exact W.zret hx hb hr hnar (fun t ht _ => ⟨rfl, ht⟩) (fun q hq => absurd hq List.not_mem_nil) zd_lc_14
/-- charAt -/
theorem zs_ca {k : Nat} (hk : k < 124) : Met l (px_iy 4) px_wq4 px_rmS (zs_pre aS aV ba [.ref aS, .int (Int32.ofInt (k : Int))]) (zs_post (some (.int (Int32.ofInt ((px_words.getD k 0 : Nat) : Int))))) 0 0 (fun _ => False) := by
  obtain ⟨-, -, hnar⟩ := zs_num ⟨k, hk⟩
  dsimp only at hnar
  refine Met.ofW (cc := prog_19_method_56_code) (maxL := 2) (ret := some .char) (by decide) rfl ?_
  intro p e s m args below meth c s₁ B hml hv
  obtain ⟨rfl, hSF⟩ := hv
  have hx := B.exec
  have hb := B.bytes
  have hr := B.returns
  have hts : ∀ w ∈ px_gt, w.before _ s = true := fun w hw => atoms_spec (ws := px_wq4) B.pre w (List.mem_cons_of_mem _ hw)
  have hown : s.vm.findClass "java/lang/String" = some m.cls := findClass_of_methodNamed B.named
  have hlocks := B.notSynchronized
  have hl := lv_entry ([.ref aS, .int (Int32.ofInt (k : Int))]) (n := 2) (Nat.le_of_ble_eq_true rfl)
  rw [lg_entry_eq]
  generalize (lg_sl ([.ref aS, .int (Int32.ofInt (k : Int))]) ++ List.replicate (2 - (lg_sl ([.ref aS, .int (Int32.ofInt (k : Int))])).length) Slot.unset).toArray = ls at hl ⊢
  have hl : lv_has ls 2 [(0, .ref aS), (1, .int (Int32.ofInt (k : Int)))] := hl
  refine lv_aload_n hx hb zd_ca_0 rfl (lv_at hl 0 rfl) ?_
  refine zs_callV (As := []) (rest := []) ⟨hx, hb, hml, hown, hts⟩ (zs_la l) hSF zs_w739 zs_w740 zs_w741 zs_w742 rfl rfl ⟨rfl, by decide, by decide, by decide +kernel⟩ ⟨by decide, by decide⟩ rfl hl.1 (by decide) zd_ca_1 ?_
  refine lv_if_eq hx hb zd_ca_4 (tgt := 16) (by decide) (fun h => absurd h (by decide)) (fun _ => ?_)
  refine lv_aload_n hx hb zd_ca_7 rfl (lv_at hl 0 rfl) ?_
  refine vk_getf (A := fun q => ba ≤ q) hx hb (hSF.1.1 0 (by decide)).2.2.1 va_S.rf hown (hts _ zs_wval) (fun _ h => h) zd_ca_8 ?_
  refine lv_iload_n hx hb zd_ca_11 rfl (lv_at hl 1 rfl) ?_
  refine zs_callS (n := 2) (As := [.ref aV, .int (Int32.ofInt (k : Int))]) (rest := []) ⟨hx, hb, hml, hown, hts⟩ (zs_lc l hk) hSF zs_w743 zs_w744 zs_w105 zs_w745 rfl rfl ⟨by decide, by decide, by decide +kernel⟩ ⟨by decide, by decide⟩ rfl hl.1 (by decide) zd_ca_12 ?_
  exact W.zret hx hb hr hnar (fun t ht _ => ⟨rfl, ht⟩) (fun q hq => absurd hq List.not_mem_nil) zd_ca_15
end ZSM
/-- the two contracts as the steps of the pure machine want them -/
theorem zs_weaken {l : Launch} {y : MethodName} {ws : List Cond} {rm : Room} {G : PG} {L aV : Nat} {xs alw : Nat → Int32} {as : List Value} {v : Int} (h : Met l y ws rm (zs_pre G.2.2.2.2.1 aV (px_ba G) (.ref G.2.2.2.2.1 :: as)) (zs_post (some (.int (Int32.ofInt v)))) 0 0 (fun _ => False)) : Met l y ws rm (px_preS G L xs alw (px_SF G.2.2.2.2.1 aV (px_ba G)) as) (px_postS v) 0 0 (fun _ => False) := by
  intro p e h1 h2 h3 s m args below hf hap hP hK
  exact h p e h1 h2 h3 s m args below hf hap ⟨hP.1, hP.2.2.2.2.2.2.2.2.1⟩ hK
theorem px_str_ok (l : Launch) {G : PG} {L : Nat} {xs alw : Nat → Int32} {aV : Nat} : px_STR l G L xs alw (px_SF G.2.2.2.2.1 aV (px_ba G)) := by
  refine ⟨zs_weaken (zs_le l), fun x x0 x1 => ?_⟩
  have h124 : px_words.length = 124 := rfl
  obtain ⟨k, rfl⟩ : ∃ k : Nat, x = (k : Int) := ⟨x.toNat, by omega⟩
  have h := zs_ca (aS := G.2.2.2.2.1) (aV := aV) (ba := px_ba G) l (k := k) (by omega)
  rw [Int.toNat_natCast]
  exact zs_weaken h
