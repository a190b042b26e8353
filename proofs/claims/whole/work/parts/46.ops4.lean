/-! One instruction: cells that are made, copies, what is the JDK's own. -/
theorem px_aw0 : Cond.arrayClass .int ∈ px_gt := px_at_mem (p := 157) (by decide +kernel)
theorem px_aw1 : Cond.arrayClass .byte ∈ px_gt := px_at_mem (p := 838) (by decide +kernel)
theorem px_aw2 : Cond.arrayClass .boolean ∈ px_gt := px_at_mem (p := 1450) (by decide +kernel)
theorem px_aw3 : Cond.arrayClass .long ∈ px_gt := px_at_mem (p := 540) (by decide +kernel)
theorem px_sw0 : Cond.native arraycopyName ∈ px_gt := px_at_mem (p := 837) (by decide +kernel)
theorem px_sw1 : Cond.static arraycopyName ∈ px_gt := px_at_mem (p := 836) (by decide +kernel)
theorem px_sw2 : Cond.initialized "java/lang/System" ∈ px_gt := px_at_mem (p := 108) (by decide +kernel)
theorem px_ow0 : Cond.instanceMethod objectInit ∈ px_gt := px_at_mem (p := 118) (by decide +kernel)
theorem px_ow1 : Cond.code objectInit ⟨#[0xb1]⟩ 1 none ∈ px_gt := px_at_mem (p := 119) (by decide +kernel)
theorem px_mw0 : Cond.initialized "java/lang/Math" ∈ px_gt := px_at_mem (p := 90) (by decide +kernel)
theorem px_mw1 : Cond.static Lib.Math.max.name ∈ px_gt := px_at_mem (p := 124) (by decide +kernel)
theorem px_mw2 : Cond.code Lib.Math.max.name Lib.Math.max.code 2 (some .int) ∈ px_gt := px_at_mem (p := 125) (by decide +kernel)
theorem px_mw3 : Cond.static Lib.Math.min.name ∈ px_gt := px_at_mem (p := 121) (by decide +kernel)
theorem px_mw4 : Cond.code Lib.Math.min.name Lib.Math.min.code 2 (some .int) ∈ px_gt := px_at_mem (p := 122) (by decide +kernel)
theorem px_mw5 : Cond.static Lib.Math.abs.name ∈ px_gt := px_at_mem (p := 861) (by decide +kernel)
theorem px_mw6 : Cond.code Lib.Math.abs.name Lib.Math.abs.code 1 (some .int) ∈ px_gt := px_at_mem (p := 862) (by decide +kernel)
theorem px_mw7 : Cond.static Lib.MathLoose.max_long.x ∈ px_gt := px_at_mem (p := 888) (by decide +kernel)
theorem px_mw8 : Cond.code Lib.MathLoose.max_long.x Lib.MathLoose.max_long.code 4 (some .long) ∈ px_gt := px_at_mem (p := 889) (by decide +kernel)
theorem px_mw9 : Cond.static Lib.MathLoose.min_long.x ∈ px_gt := px_at_mem (p := 885) (by decide +kernel)
theorem px_mwA : Cond.code Lib.MathLoose.min_long.x Lib.MathLoose.min_long.code 4 (some .long) ∈ px_gt := px_at_mem (p := 886) (by decide +kernel)
theorem px_rw0 : Cond.fieldLink "TideGuests$Reader" 118 "TideGuests$Reader" "ALLOWED" "[I" ∈ px_gt := px_at_mem (p := 790) (by decide +kernel)
theorem px_catsum (G : PG) (r : List PV) : ((r.map (px_tr G)).map fun v => v.category).sum = (r.map px_cat).sum := by
  rw [List.map_map]
  congr 1
  apply List.map_congr_left
  intro v _
  exact px_tr_cat G v
section PX4
variable {p : Program} {l : Launch} {e : Env} {R : Room} {s0 : State} {mi : MethodId} {args : Array Value} {below : List Frame} {meth : Method} {c : Code} {Q : State → Prop}
variable {G : PG} {L : Nat} {xs alw : Nat → Int32} {SF : State → Heap → Prop} {e0 t0 : Nat} {m nL pc : Nat} {pl st : List PV} {s s' : PM} {f' : FR} {H : Heap} {locs : List Loc} {cells slots : Nat} {ls : Array Slot} {rest : List Value}
theorem px_o_new (hC : px_CX p s0 mi args meth c m G L xs alw SF) {i ci : Nat} (hd : decode (px_by m) pc = .ok (.new i, 3)) (hci : ci < 13) (hw : Cond.classLink (px_own (px_mo m)) i (px_own ci) ∈ px_gt)
    (h : px_new ci pc pl st s = some (.inl (f', s'))) (he : e0 ≤ s.1.length) (ht : t0 ≤ s.2.2.2.2) (hR1 : s'.1.length - e0 ≤ R.cells) (hR2 : s'.2.2.2.2 - t0 ≤ R.slots)
    (k : px_AT p l e R s0 mi args below meth c Q G L xs alw nL e0 t0 f' s') : px_AT p l e R s0 mi args below meth c Q G L xs alw nL e0 t0 (pc, pl, st) s := by
  obtain ⟨hx, hb, hml, hown, hts, hin, hE⟩ := hC
  cases h
  intro H locs ls hLR hok hrel hS
  obtain ⟨⟨w1, w2⟩, hcf, -⟩ := px_cok_of hci
  have hc := px_cls_ok hci
  have hKn := hE.1.1 ci _ hc
  have hlen : (px_mk s (.inl ci) (px_nf ci)).1.length = s.1.length + 1 := by simp [px_mk]
  have htot : (px_mk s (.inl ci) (px_nf ci)).2.2.2.2 = s.2.2.2.2 + px_nf ci := rfl
  rw [hlen] at hR1
  rw [htot] at hR2
  refine W.newcK hx hb hown (hts _ hw) (hts _ w1) (hts _ w2) rfl hd (by omega) (by omega) hKn.2.1 rfl fun H1 kC hkC e1 z1 o1 => ?_
  have hget : (s.1 ++ [Sum.inl ci])[s.1.length]? = some (Sum.inl ci : Sh) := by rw [List.getElem?_append_right (Nat.le_refl _), Nat.sub_self]; rfl
  have hrel2 : px_rel G L xs alw (px_mk s (.inl ci) (px_nf ci)) H1 := by
    refine px_rel_mk hrel (fun t n h => by cases h) ?_ z1 o1
    unfold px_cel
    rw [show (px_mk s (.inl ci) (px_nf ci)).1[s.1.length]? = some (Sum.inl ci : Sh) from hget]
    refine ⟨_, hc, (u_born (px_fty ci) hts (px_uws hci) hKn hkC e1 (fun k hk => (hcf k hk).2.1)).to (fun j hj => ?_)⟩
    show _ = ((List.range (px_nf ci)).map (px_fv G _ s.1.length ci)).getD j .null
    rw [List.getD_eq_getElem?_getD, List.getElem?_map, List.getElem?_range hj]
    show defaultValue (px_fty ci j) = px_fv G _ s.1.length ci j
    have hu1 : (px_mk s (.inl ci) (px_nf ci)).2.1 s.1.length j = 0 := by simp [px_mk, px_un]
    have hu2 : (px_mk s (.inl ci) (px_nf ci)).2.2.1 s.1.length j = 0 := by simp [px_mk, px_un]
    have hu3 : (px_mk s (.inl ci) (px_nf ci)).2.2.2.1 s.1.length j = none := by simp [px_mk, px_un]
    unfold px_fv
    rw [hu1, hu2, hu3]
    rcases (hcf j hj).2.2.2.1 with ⟨h1, h2⟩ | ⟨h1, h2⟩ | ⟨h1, h2⟩ | ⟨h1, h2⟩
    · rw [h1, h2]; rfl
    · rw [h1, h2]; rfl
    · rw [h1, h2]; rfl
    · rw [h1]
      rcases h2 with ⟨n, h2⟩ | ⟨a, h2⟩ <;> (rw [h2]; rfl)
  have hadr : H.size = px_adr G s.1.length := by rw [px_adr_in G hrel.2.2.1]; exact hrel.2.1
  have kk := k H1 locs ls hLR (px_okl_cons.mpr ⟨trivial, hok⟩) hrel2 ⟨Nat.le_trans hS.1 (by omega), fun x h1 h2 => (o1 x (Nat.lt_of_lt_of_le h1 hS.1)).trans (hS.2.1 x h1 h2), hS.2.2⟩
  rw [hlen, htot, show s.1.length + 1 - e0 = s.1.length - e0 + 1 by omega, show s.2.2.2.2 + px_nf ci - t0 = s.2.2.2.2 - t0 + px_nf ci by omega] at kk
  rw [hadr]
  exact kk
/-- the world behind an array that is made -/
theorem px_mk_arr {t n : Nat} {H1 : Heap} (hrel : px_rel G L xs alw s H) (hkd : px_kdok t) (hn : n ≤ 10000) {ty : FieldType} (hty : defaultValue ty = (if t = 3 then .long 0 else if 4 ≤ t then .null else .int 0)) (e1 : H1[H.size]? = some (arrV (G.2.1 t) n (fun _ => defaultValue ty))) (z1 : H1.size = H.size + 1) (o1 : ∀ q : Nat, q < H.size → H1[q]? = H[q]?) : px_rel G L xs alw (px_mk s (.inr (t, n)) n) H1 := by
  have hget : (s.1 ++ [Sum.inr (t, n)])[s.1.length]? = some (Sum.inr (t, n) : Sh) := by rw [List.getElem?_append_right (Nat.le_refl _), Nat.sub_self]; rfl
  refine px_rel_mk hrel (fun t2 n2 h => by cases h; exact ⟨hkd, hn⟩) ?_ z1 o1
  unfold px_cel
  rw [show (px_mk s (.inr (t, n)) n).1[s.1.length]? = some (Sum.inr (t, n) : Sh) from hget]
  show H1[H.size]? = some (vp_cell (G.2.1 t) (n, px_con G _ s.1.length t))
  rw [e1]
  have hu1 : (px_mk s (.inr (t, n)) n).2.1 s.1.length = fun _ => 0 := by funext j; simp [px_mk, px_un]
  have hu2 : (px_mk s (.inr (t, n)) n).2.2.1 s.1.length = fun _ => 0 := by funext j; simp [px_mk, px_un]
  have hu3 : (px_mk s (.inr (t, n)) n).2.2.2.1 s.1.length = fun _ => none := by funext j; simp [px_mk, px_un]
  unfold px_con
  rw [hu1, hu2, hu3, hty]
  by_cases h3 : t = 3
  · rw [if_pos h3, if_pos h3]; rfl
  · rw [if_neg h3, if_neg h3]
    by_cases h4 : 4 ≤ t
    · rw [if_pos h4, if_pos h4]; rfl
    · rw [if_neg h4, if_neg h4]; rfl
theorem px_o_nwa (hC : px_CX p s0 mi args meth c m G L xs alw SF) {at0 : ArrayType} {t : Nat} (hkd : px_kdok t) (hd : decode (px_by m) pc = .ok (.newarray at0, 2)) (hw : Cond.arrayClass (newarray.typeOf at0) ∈ px_gt) (hby : componentBytes (newarray.typeOf at0) ≤ 8)
    (hcA : ∀ cA, s0.vm.findClass ("[" ++ (newarray.typeOf at0).toString) = some cA → cA = G.2.1 t) (hdef : defaultValue (newarray.typeOf at0) = (if t = 3 then .long 0 else if 4 ≤ t then .null else .int 0))
    (h : px_nwa t 2 pc pl st s = some (.inl (f', s'))) (he : e0 ≤ s.1.length) (ht : t0 ≤ s.2.2.2.2) (hR1 : s'.1.length - e0 ≤ R.cells) (hR2 : s'.2.2.2.2 - t0 ≤ R.slots)
    (k : px_AT p l e R s0 mi args below meth c Q G L xs alw nL e0 t0 f' s') : px_AT p l e R s0 mi args below meth c Q G L xs alw nL e0 t0 (pc, pl, st) s := by
  obtain ⟨hx, hb, hml, hown, hts, hin, hE⟩ := hC
  unfold px_nwa at h
  split at h
  · rename_i x r
    split at h
    · rename_i hx01
      cases h
      intro H locs ls hLR hok hrel hS
      obtain ⟨hx1, hok1⟩ := px_okl_cons.mp hok
      obtain ⟨N, rfl⟩ : ∃ N : Nat, x = (N : Int) := ⟨x.toNat, by omega⟩
      have hN : N ≤ 10000 := by omega
      have hn1 : ¬ Int32.ofInt (N : Int) < 0 := by
        rw [show (0 : Int32) = Int32.ofInt 0 from rfl, px_lt32 hx1 px_0r]; omega
      have hn2 : (Int32.ofInt (N : Int)).toNatClampNeg = N := by
        show (Int32.ofInt (N : Int)).toInt.toNat = _
        rw [px_t32 hx1]; omega
      rw [Int.toNat_natCast] at k hR1 hR2
      have hlen : (px_mk s (.inr (t, N)) N).1.length = s.1.length + 1 := by simp [px_mk]
      have htot : (px_mk s (.inr (t, N)) N).2.2.2.2 = s.2.2.2.2 + N := rfl
      rw [hlen] at hR1
      rw [htot] at hR2
      refine va_newaK hx hb (hts _ hw) rfl hd rfl hn1 hn2 (by have := Nat.mul_le_mul hN hby; omega) (by omega) (by omega) rfl fun H1 cA e1 z1 o1 hAr hNm => ?_
      rw [hcA cA hNm] at e1
      have hrel2 := px_mk_arr hrel hkd hN hdef e1 z1 o1
      have hadr : H.size = px_adr G s.1.length := by rw [px_adr_in G hrel.2.2.1]; exact hrel.2.1
      have kk := k H1 locs ls hLR (px_okl_cons.mpr ⟨trivial, hok1⟩) hrel2 ⟨Nat.le_trans hS.1 (by omega), fun x h1 h2 => (o1 x (Nat.lt_of_lt_of_le h1 hS.1)).trans (hS.2.1 x h1 h2), hS.2.2⟩
      rw [hlen, htot, show s.1.length + 1 - e0 = s.1.length - e0 + 1 by omega, show s.2.2.2.2 + N - t0 = s.2.2.2.2 - t0 + N by omega] at kk
      rw [hadr]
      exact kk
    · cases h
  · cases h
theorem px_o_anw (hC : px_CX p s0 mi args meth c m G L xs alw SF) {i ci : Nat} (hkd : px_kdok (4 + ci)) (hd : decode (px_by m) pc = .ok (.anewarray i, 3)) (hw : Cond.classLink (px_own (px_mo m)) i (px_own ci) ∈ px_gt) (hov : va_AO (px_own ci) s0)
    (hcA : ∀ cA, s0.vm.findClass ("[" ++ (FieldType.object (px_own ci)).toString) = some cA → cA = G.2.1 (4 + ci))
    (h : px_nwa (4 + ci) 3 pc pl st s = some (.inl (f', s'))) (he : e0 ≤ s.1.length) (ht : t0 ≤ s.2.2.2.2) (hR1 : s'.1.length - e0 ≤ R.cells) (hR2 : s'.2.2.2.2 - t0 ≤ R.slots)
    (k : px_AT p l e R s0 mi args below meth c Q G L xs alw nL e0 t0 f' s') : px_AT p l e R s0 mi args below meth c Q G L xs alw nL e0 t0 (pc, pl, st) s := by
  obtain ⟨hx, hb, hml, hown, hts, hin, hE⟩ := hC
  unfold px_nwa at h
  split at h
  · rename_i x r
    split at h
    · rename_i hx01
      cases h
      intro H locs ls hLR hok hrel hS
      obtain ⟨hx1, hok1⟩ := px_okl_cons.mp hok
      obtain ⟨N, rfl⟩ : ∃ N : Nat, x = (N : Int) := ⟨x.toNat, by omega⟩
      have hN : N ≤ 10000 := by omega
      have hn1 : ¬ Int32.ofInt (N : Int) < 0 := by
        rw [show (0 : Int32) = Int32.ofInt 0 from rfl, px_lt32 hx1 px_0r]; omega
      have hn2 : (Int32.ofInt (N : Int)).toNatClampNeg = N := by
        show (Int32.ofInt (N : Int)).toInt.toNat = _
        rw [px_t32 hx1]; omega
      rw [Int.toNat_natCast] at k hR1 hR2
      have hlen : (px_mk s (.inr (4 + ci, N)) N).1.length = s.1.length + 1 := by simp [px_mk]
      have htot : (px_mk s (.inr (4 + ci, N)) N).2.2.2.2 = s.2.2.2.2 + N := rfl
      rw [hlen] at hR1
      rw [htot] at hR2
      refine W.anew hx hb hown (hts _ hw) (va_AO.use hov) rfl hd rfl hn1 (by rw [hn2]; omega) (by omega) (by rw [hn2]; omega) fun cA kA comp f1 f2 f3 f4 => ?_
      rw [hn2]
      generalize hH1 : H.push ({ cls := cA, slots := Array.replicate N .null, vm := .none } : Cell) = H1
      have z1 : H1.size = H.size + 1 := by rw [← hH1, Array.size_push]
      have e1 : H1[H.size]? = some (arrV cA N (fun _ => .null)) := by rw [← hH1, Array.getElem?_push_size, ← arrV_new]
      have o1 : ∀ q : Nat, q < H.size → H1[q]? = H[q]? := fun q hq => by rw [← hH1, Array.getElem?_push, if_neg (Nat.ne_of_lt hq)]
      rw [hcA cA f1] at e1
      have hrel2 := px_mk_arr (ty := .object "") hrel hkd hN (by rw [if_neg (by omega), if_pos (by omega)]; rfl) e1 z1 o1
      have hadr : H.size = px_adr G s.1.length := by rw [px_adr_in G hrel.2.2.1]; exact hrel.2.1
      have kk := k H1 locs ls hLR (px_okl_cons.mpr ⟨trivial, hok1⟩) hrel2 ⟨Nat.le_trans hS.1 (by omega), fun x h1 h2 => (o1 x (Nat.lt_of_lt_of_le h1 hS.1)).trans (hS.2.1 x h1 h2), hS.2.2⟩
      rw [hlen, htot, show s.1.length + 1 - e0 = s.1.length - e0 + 1 by omega, show s.2.2.2.2 + N - t0 = s.2.2.2.2 - t0 + N by omega] at kk
      rw [hadr]
      exact kk
    · cases h
  · cases h
theorem px_un_row {α : Type} (f : Nat → Int → α) {k k' : Nat} (g : Int → α) (h : k' ≠ k) : px_un f k g k' = f k' := by funext x; simp [px_un, h]
theorem px_cpyE {α β : Type} (F : α → β) (f g : Int → α) (sp dp n : Nat) : (fun j : Nat => F ((fun x : Int => if (dp : Int) ≤ x ∧ x < dp + n then f (sp + (x - dp)) else g x) j)) = va_cpy (fun j : Nat => F (f j)) (fun j : Nat => F (g j)) sp dp n := by
  funext j
  unfold va_cpy
  by_cases h : dp ≤ j ∧ j < dp + n
  · rw [if_pos h]
    show F (if _ then _ else _) = _
    rw [if_pos (by omega), show ((sp : Int) + ((j : Int) - dp)) = ((sp + (j - dp) : Nat) : Int) by omega]
  · rw [if_neg h]
    show F (if _ then _ else _) = _
    rw [if_neg (by omega)]
theorem px_o_acp (hC : px_CX p s0 mi args meth c m G L xs alw SF) {i : Nat} (hnL : nL = px_ml m) (hd : decode (px_by m) pc = .ok (.invokestatic i, 3)) (hw : Cond.methodLink (px_own (px_mo m)) i arraycopyName ∈ px_gt) (hRf : 1 ≤ R.frames) (hRl : 100 ≤ R.locals)
    (h : px_acp pc pl st s = some (.inl (f', s'))) (k : px_AT p l e R s0 mi args below meth c Q G L xs alw nL e0 t0 f' s') : px_AT p l e R s0 mi args below meth c Q G L xs alw nL e0 t0 (pc, pl, st) s := by
  obtain ⟨hx, hb, hml, hown, hts, hin, hE⟩ := hC
  unfold px_acp at h
  split at h
  · rename_i n dp kd sp ks r
    split at h
    · rename_i t n1 t0' n0 hk1 hk0
      split at h
      · rename_i hcnd
        obtain ⟨rfl, hn, hsp, hdp, h4, h5, h6, h7, h8⟩ := hcnd
        intro H locs ls hLR hok hrel hS
        obtain ⟨rn, hok1⟩ := px_okl_cons.mp hok
        obtain ⟨rdp, hok2⟩ := px_okl_cons.mp hok1
        obtain ⟨-, hok3⟩ := px_okl_cons.mp hok2
        obtain ⟨rsp, hok4⟩ := px_okl_cons.mp hok3
        obtain ⟨-, hok5⟩ := px_okl_cons.mp hok4
        obtain ⟨N, rfl⟩ : ∃ N : Nat, n = (N : Int) := ⟨n.toNat, by omega⟩
        obtain ⟨SP, rfl⟩ : ∃ N : Nat, sp = (N : Int) := ⟨sp.toNat, by omega⟩
        obtain ⟨DP, rfl⟩ : ∃ N : Nat, dp = (N : Int) := ⟨dp.toNat, by omega⟩
        have nn : ∀ X : Nat, px_r32 (X : Int) → ¬ Int32.ofInt (X : Int) < 0 ∧ (Int32.ofInt (X : Int)).toNatClampNeg = X ∧ (Int32.ofInt (X : Int)).toInt = X := by
          intro X hX
          refine ⟨by rw [show (0 : Int32) = Int32.ofInt 0 from rfl, px_lt32 hX px_0r]; omega, ?_, px_t32 hX⟩
          show (Int32.ofInt (X : Int)).toInt.toNat = _
          rw [px_t32 hX]; omega
        obtain ⟨a1, a2, a3⟩ := nn N rn
        obtain ⟨b1, b2, b3⟩ := nn SP rsp
        obtain ⟨d1, d2, d3⟩ := nn DP rdp
        have hkd := (hrel.2.2.2.2.1 kd t n1 hk1).1
        have haA : px_A G (px_adr G kd) := by rw [px_adr_in G h6]; exact Nat.le_add_right _ _
        have hcd : H[px_adr G kd]? = some (vp_cell (G.2.1 t) (n1, px_con G s kd t)) := hrel.1 _ _ (px_at_arr h6 hk1)
        have hcs : H[px_adr G ks]? = some (vp_cell (G.2.1 t) (n0, px_con G s ks t)) := hrel.1 _ _ (px_at_arr h7 hk0)
        have hl : px_adr G kd < H.size := (Array.getElem?_eq_some_iff.mp hcd).1
        obtain ⟨tt, ty, htt, ht0, -, -, ht3, -⟩ := px_tys_of hE.1 hkd
        have hno : ∀ (t : Nat) (cA : ClassId) (x : vp_A), (vp_cell cA x).vm = .none := fun _ cA x => by
          obtain ⟨n, f | f | f | f | f⟩ := x <;> rfl
        have hcls : ∀ (cA : ClassId) (x : vp_A), (vp_cell cA x).cls = cA := fun cA x => by
          obtain ⟨n, f | f | f | f | f⟩ := x <;> rfl
        have hsz : ∀ (cA : ClassId) (x : vp_A), (vp_cell cA x).slots.size = x.1 := fun cA x => by
          obtain ⟨n, f | f | f | f | f⟩ := x <;> exact arrV_size _ _ _
        obtain ⟨-, kA, hkA, cmp, hkk⟩ := (hE.1.2 tt _ htt).1 n1 (fun _ => .null)
        have main : ∀ (s2 : PM), f' = (pc + 3, pl, r) → s' = s2 → s2.1 = s.1 → s2.2.2.2.2 = s.2.2.2.2 → (∀ q : Nat, q ≠ kd → (s2.2.1 q = s.2.1 q ∧ s2.2.2.1 q = s.2.2.1 q ∧ s2.2.2.2.1 q = s.2.2.2.1 q)) → px_okm s2 → refKind ty = false →
            (∀ j, j < n0 → fits ty ((vp_cell (G.2.1 t) (n0, px_con G s ks t)).slots.getD j .null) = true ∧ ∀ (U : State) (cc : ClassId), U.takes cc ((vp_cell (G.2.1 t) (n0, px_con G s ks t)).slots.getD j .null)) →
            copied (vp_cell (G.2.1 t) (n0, px_con G s ks t)) (vp_cell (G.2.1 t) (n1, px_con G s kd t)) (Int32.ofInt SP) (Int32.ofInt DP) (Int32.ofInt N) = vp_cell (G.2.1 t) (n1, px_con G s2 kd t) →
            W p l e R s0 mi args below meth c H locs (s.1.length - e0) (s.2.2.2.2 - t0) Q (F0 mi pc ls (.int (Int32.ofInt N) :: .int (Int32.ofInt DP) :: .ref (px_adr G kd) :: .int (Int32.ofInt SP) :: .ref (px_adr G ks) :: r.map (px_tr G))) := by
          intro s2 hf hs hs1 hs2 hoth hm2 hpr hvals hcop
          subst hf; subst hs
          intro T hT X
          obtain ⟨vm', X', step⟩ := X.arraycopy hx hown (hts _ hw) (hts _ px_sw0) (hts _ px_sw1) (hts _ px_sw2) (src := px_adr G ks) (dst := px_adr G kd) (cs := vp_cell (G.2.1 t) (n0, px_con G s ks t)) (cd := vp_cell (G.2.1 t) (n1, px_con G s kd t)) (srcPos := Int32.ofInt SP) (destPos := Int32.ofInt DP) (n := Int32.ofInt N) (by rw [hT]; exact hcs) (by rw [hT]; exact hcd)
            (fun q h => by rw [hno t] at h; cases h) (fun q h => by rw [hno t] at h; cases h) (fun h => by rw [hno t] at h; cases h) (fun h => by rw [hno t] at h; cases h) (by rw [hcls]; exact hkA) (by rw [hcls]; exact hkA) hkk hkk (by simp [hpr]) b1 d1 a1
            (by rw [b3, a3, hsz]; show ¬ _ > (n0 : Int); omega) (by rw [d3, a3, hsz]; show ¬ _ > (n1 : Int); omega)
            (fun vm₁ _ q hq => by
              rw [a2] at hq
              rw [b2]
              obtain ⟨g1, g2⟩ := hvals (SP + q) (by omega)
              exact ⟨g1, g2 _ _⟩)
            (g := F0 mi pc ls (.int (Int32.ofInt N) :: .int (Int32.ofInt DP) :: .ref (px_adr G kd) :: .int (Int32.ofInt SP) :: .ref (px_adr G ks) :: r.map (px_tr G))) rfl (by show ls.size = _; rw [hLR.1, hnL, hml]) (rest := r.map (px_tr G)) rfl (by rw [hb]; exact hd) hRf (by
              rw [px_catsum]
              have : nativeFrameWords "java/lang/System" "arraycopy" 5 ≤ 60 := by decide +kernel
              show 2 * 0 + _ + _ ≤ _
              omega)
          rw [hcop] at X' step
          have hheap : ((T.setVm vm').setCell (px_adr G kd) (vp_cell (G.2.1 t) (n1, px_con G s' kd t))).heap = H.setIfInBounds (px_adr G kd) (vp_cell (G.2.1 t) (n1, px_con G s' kd t)) := by rw [← hT]; rfl
          have oq : ∀ q : Nat, q ≠ px_adr G kd → (H.setIfInBounds (px_adr G kd) (vp_cell (G.2.1 t) (n1, px_con G s' kd t)))[q]? = H[q]? := fun q hq => by simp [Array.getElem?_setIfInBounds, Ne.symm hq]
          have hrel2 : px_rel G L xs alw s' (H.setIfInBounds (px_adr G kd) (vp_cell (G.2.1 t) (n1, px_con G s' kd t))) := px_arr_after hrel h6 hk1 hs1 hoth hm2 (by simp [Array.getElem?_setIfInBounds, hl]) (by simp) oq
          have kk := k _ (locs ++ ((vp_cell (G.2.1 t) (n0, px_con G s ks t)).stretch (Int32.ofInt SP).toNatClampNeg (Int32.ofInt N).toNatClampNeg).zipIdx.map fun q => ⟨px_adr G kd, (Int32.ofInt DP).toNatClampNeg + q.2⟩) ls hLR hok5 hrel2 ⟨by simp; exact hS.1, fun q g1 g2 => by
            rw [oq q (fun e => g2 (by rw [e]; exact haA))]
            exact hS.2.1 q g1 g2, fun q hq => by
            rcases List.mem_append.mp hq with h | h
            · exact hS.2.2 q h
            · obtain ⟨z, -, hz⟩ := List.mem_map.mp h
              rw [← hz]
              exact haA⟩
          rw [hs1, hs2] at kk
          obtain ⟨t9, y1, y2⟩ := kk _ hheap X'
          exact ⟨t9, step t9 y1, y2⟩
        split at h
        · cases h
          have hty := ht0 rfl
          subst hty
          refine main _ rfl rfl rfl rfl (fun q hq => ⟨px_un_row _ _ hq, rfl, rfl⟩) (fun q j => ⟨?_, (hrel.2.2.2.1 q j).2⟩) rfl (fun j hj => ?_) ?_
          · dsimp only [px_un]
            split
            · split
              · exact (hrel.2.2.2.1 _ _).1
              · exact (hrel.2.2.2.1 _ _).1
            · exact (hrel.2.2.2.1 q j).1
          · have e9 : (vp_cell (G.2.1 0) (n0, px_con G s ks 0)).slots.getD j .null = .int (Int32.ofInt (s.2.1 ks j)) := by
              rw [px_con0, vp_cell_i, Array.getD_eq_getD_getElem?, arrV_read _ _ hj]; rfl
            rw [e9]
            exact ⟨rfl, fun _ _ => trivial⟩
          · rw [px_con0, px_con0, px_con0, vp_cell_i, vp_cell_i, vp_cell_i]
            unfold copied
            rw [b2, d2, a2]
            refine (va_copied (fun z => .int z) _ _ (fun j : Nat => Int32.ofInt (s.2.1 ks j)) (fun j : Nat => Int32.ofInt (s.2.1 kd j)) (by omega)).trans ?_
            rw [← px_cpyE Int32.ofInt (s.2.1 ks) (s.2.1 kd) SP DP N]
            congr 1
            funext j
            simp [px_un]
        · cases h
          have hty := ht3 rfl
          subst hty
          refine main _ rfl rfl rfl rfl (fun q hq => ⟨rfl, px_un_row _ _ hq, rfl⟩) (fun q j => ⟨(hrel.2.2.2.1 q j).1, ?_⟩) rfl (fun j hj => ?_) ?_
          · dsimp only [px_un]
            split
            · split
              · exact (hrel.2.2.2.1 _ _).2
              · exact (hrel.2.2.2.1 _ _).2
            · exact (hrel.2.2.2.1 q j).2
          · have e9 : (vp_cell (G.2.1 3) (n0, px_con G s ks 3)).slots.getD j .null = .long (Int64.ofInt (s.2.2.1 ks j)) := by
              rw [px_con3, vp_cell_l, Array.getD_eq_getD_getElem?, arrV_read _ _ hj]; rfl
            rw [e9]
            exact ⟨rfl, fun _ _ => trivial⟩
          · rw [px_con3, px_con3, px_con3, vp_cell_l, vp_cell_l, vp_cell_l]
            unfold copied
            rw [b2, d2, a2]
            refine (va_copied (fun z => .long z) _ _ (fun j : Nat => Int64.ofInt (s.2.2.1 ks j)) (fun j : Nat => Int64.ofInt (s.2.2.1 kd j)) (by omega)).trans ?_
            rw [← px_cpyE Int64.ofInt (s.2.2.1 ks) (s.2.2.1 kd) SP DP N]
            congr 1
            funext j
            simp [px_un]
        · cases h
      · cases h
    · cases h
  · cases h
end PX4
