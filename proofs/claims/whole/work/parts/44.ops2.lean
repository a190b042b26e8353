/-! One instruction: fields and arrays, cells that are made. -/
theorem px_cls_ok {ci : Nat} (h : ci < 13) : px_cls[ci]? = some (px_own ci, px_Fo ci, px_nf ci) := by
  rcases (by omega : ci = 0 ∨ ci = 1 ∨ ci = 2 ∨ ci = 3 ∨ ci = 4 ∨ ci = 5 ∨ ci = 6 ∨ ci = 7 ∨ ci = 8 ∨ ci = 9 ∨ ci = 10 ∨ ci = 11 ∨ ci = 12) with rfl | rfl | rfl | rfl | rfl | rfl | rfl | rfl | rfl | rfl | rfl | rfl | rfl <;> rfl
theorem px_cokK {ci : Nat} (h : ci < 13) : px_cok ci = true := List.all_eq_true.mp px_cc ci (List.mem_range.mpr h)
/-- what px_cok says -/
theorem px_cok_of {ci : Nat} (h : ci < 13) : (.instantiable (px_own ci) (px_nf ci) ∈ px_gt ∧ .initialized (px_own ci) ∈ px_gt) ∧
    (∀ k, k < px_nf ci → u_lay (px_own ci) (px_Fo ci) k ∈ px_gt ∧ parseFieldDescriptor (px_Fo ci k).2.2.1 = some (px_fty ci k) ∧ (px_Fo ci k).1 = px_own ci ∧
      ((px_ty ci k = 0 ∧ px_fty ci k = .int) ∨ (px_ty ci k = 1 ∧ px_fty ci k = .boolean) ∨ (px_ty ci k = 3 ∧ px_fty ci k = .long) ∨ (px_ty ci k = 4 ∧ ((∃ n, px_fty ci k = .object n) ∨ ∃ t, px_fty ci k = .array t))) ∧
      ((px_Fo ci k).2.2.2 = (px_fin ci k == 1)) ∧ (px_fin ci k = 0 ∨ px_fin ci k = 1)) ∧
    ∀ a, a < px_nf ci → ∀ b, b < px_nf ci → a ≠ b → (px_Fo ci a).2.1 ≠ (px_Fo ci b).2.1 := by
  have h1 := px_cokK h
  unfold px_cok at h1
  cases hq : px_cp[ci]? with
  | none => rw [hq] at h1; cases h1
  | some q =>
    rw [hq] at h1
    simp only [Bool.and_eq_true] at h1
    obtain ⟨⟨⟨h2, h3⟩, h4⟩, h5⟩ := h1
    refine ⟨⟨px_at_mem h2, px_at_mem h3⟩, fun k hk => ?_, fun a ha b hb hab => ?_⟩
    · have h6 := List.all_eq_true.mp h4 k (List.mem_range.mpr hk)
      simp only [Bool.and_eq_true] at h6
      obtain ⟨⟨⟨⟨⟨a1, a2⟩, a3⟩, a4⟩, a5⟩, a6⟩ := h6
      refine ⟨px_at_mem a1, of_decide_eq_true a2, of_decide_eq_true a3, ?_, eq_of_beq a5, ?_⟩
      · generalize px_ty ci k = t at a4
        match t, a4 with
        | 0, a4 => exact Or.inl ⟨rfl, of_decide_eq_true a4⟩
        | 1, a4 => exact Or.inr (Or.inl ⟨rfl, of_decide_eq_true a4⟩)
        | 3, a4 => exact Or.inr (Or.inr (Or.inl ⟨rfl, of_decide_eq_true a4⟩))
        | 4, a4 =>
          refine Or.inr (Or.inr (Or.inr ⟨rfl, ?_⟩))
          generalize px_fty ci k = ty at a4
          cases ty with
          | object n => exact Or.inl ⟨n, rfl⟩
          | array t => exact Or.inr ⟨t, rfl⟩
          | _ => exact absurd a4 Bool.false_ne_true
      · rw [Bool.or_eq_true] at a6
        rcases a6 with a6 | a6
        · exact Or.inl (eq_of_beq a6)
        · exact Or.inr (eq_of_beq a6)
    · have h6 := List.all_eq_true.mp (List.all_eq_true.mp h5 a (List.mem_range.mpr ha)) b (List.mem_range.mpr hb)
      rw [Bool.or_eq_true] at h6
      rcases h6 with h6 | h6
      · exact absurd (eq_of_beq h6) hab
      · exact of_decide_eq_true h6
theorem px_uws {ci : Nat} (h : ci < 13) : ∀ w ∈ u_ws (px_own ci) (px_Fo ci) (px_nf ci), w ∈ px_gt := by
  intro w hw
  obtain ⟨k, hk, rfl⟩ := List.mem_map.mp hw
  exact ((px_cok_of h).2.1 k (List.mem_range.mp hk)).1
/-- a field's link -/
theorem px_flk_ok {l0 : Nat} {q : Nat × Nat × Nat × Nat} (h : px_flk[l0]? = some q) : px_flW q ∈ px_gt ∧ q.2.2.1 < 13 ∧ q.2.2.2 < px_nf q.2.2.1 := by
  have hl : l0 < px_flk.length := (List.getElem?_eq_some_iff.mp h).1
  have hl2 : l0 < px_flp2.length := by rw [← px_flz]; exact hl
  have hz : (px_flk.zip px_flp2)[l0]? = some (q, px_flp2[l0]) := by
    rw [List.getElem?_zip_eq_some]
    exact ⟨h, List.getElem?_eq_getElem hl2⟩
  have h1 := List.all_eq_true.mp px_flc _ (List.mem_of_getElem? hz)
  simp only [Bool.and_eq_true] at h1
  exact ⟨px_at_mem h1.1.1, of_decide_eq_true h1.1.2, of_decide_eq_true h1.2⟩
theorem px_clk_ok {l0 : Nat} {q : Nat × Nat × Nat} (h : px_clk[l0]? = some q) : px_clW q ∈ px_gt ∧ q.2.2 < 13 := by
  have hl : l0 < px_clk.length := (List.getElem?_eq_some_iff.mp h).1
  have hl2 : l0 < px_clp2.length := by rw [← px_clz]; exact hl
  have hz : (px_clk.zip px_clp2)[l0]? = some (q, px_clp2[l0]) := by
    rw [List.getElem?_zip_eq_some]
    exact ⟨h, List.getElem?_eq_getElem hl2⟩
  have h1 := List.all_eq_true.mp px_clc _ (List.mem_of_getElem? hz)
  simp only [Bool.and_eq_true] at h1
  exact ⟨px_at_mem h1.1, of_decide_eq_true h1.2⟩
theorem px_klk_ok {l0 : Nat} {q : Nat × Nat × Nat × Int} (h : px_klk[l0]? = some q) : px_klW q ∈ px_gt ∧ ((q.2.2.1 = 0 → px_r32 q.2.2.2) ∧ (q.2.2.1 ≠ 0 → px_r64 q.2.2.2)) := by
  have hl : l0 < px_klk.length := (List.getElem?_eq_some_iff.mp h).1
  have hl2 : l0 < px_klp2.length := by rw [← px_klz]; exact hl
  have hz : (px_klk.zip px_klp2)[l0]? = some (q, px_klp2[l0]) := by
    rw [List.getElem?_zip_eq_some]
    exact ⟨h, List.getElem?_eq_getElem hl2⟩
  have h1 := List.all_eq_true.mp px_klc _ (List.mem_of_getElem? hz)
  simp only [Bool.and_eq_true] at h1
  refine ⟨px_at_mem h1.1, fun h2 => ?_, fun h2 => ?_⟩
  · have h3 := h1.2
    rw [show (q.2.2.1 == 0) = true from beq_iff_eq.mpr h2] at h3
    simp only [cond_true, Bool.and_eq_true] at h3
    exact ⟨of_decide_eq_true h3.1, of_decide_eq_true h3.2⟩
  · have h3 := h1.2
    rw [show (q.2.2.1 == 0) = false from beq_eq_false_iff_ne.mpr h2] at h3
    simp only [cond_false, Bool.and_eq_true] at h3
    exact ⟨of_decide_eq_true h3.1, of_decide_eq_true h3.2⟩
theorem px_ilk_ok {l0 : Nat} {q : Nat × Nat × Nat} (h : px_ilk[l0]? = some q) : Cond.methodLink (px_own q.1) q.2.1 (px_iy q.2.2) ∈ px_gt := by
  have hl : l0 < px_ilk.length := (List.getElem?_eq_some_iff.mp h).1
  have hl2 : l0 < px_ilp2.length := by rw [← px_ilz]; exact hl
  have hz : (px_ilk.zip px_ilp2)[l0]? = some (q, px_ilp2[l0]) := by
    rw [List.getElem?_zip_eq_some]
    exact ⟨h, List.getElem?_eq_getElem hl2⟩
  exact px_at_mem (List.all_eq_true.mp px_ilc _ (List.mem_of_getElem? hz))
theorem px_map_set {α : Type} {f g : Nat → α} {n j : Nat} {v : α} (hj : g j = v) (hne : ∀ q, q ≠ j → g q = f q) : ((List.range n).map f).set j v = (List.range n).map g := by
  apply List.ext_getElem?
  intro q
  by_cases hq : q = j
  · subst hq
    by_cases hn : q < n
    · rw [List.getElem?_set_self (by simpa using hn), List.getElem?_map, List.getElem?_range hn, Option.map_some, hj]
    · rw [List.getElem?_eq_none (by simpa using hn), List.getElem?_eq_none (by simpa using hn)]
  · rw [List.getElem?_set_ne (Ne.symm hq), List.getElem?_map, List.getElem?_map]
    by_cases hn : q < n
    · rw [List.getElem?_range hn, Option.map_some, Option.map_some, hne q hq]
    · rw [List.getElem?_eq_none (by simpa using hn)]
      rfl
theorem px_up_self {α : Type} (f : Nat → Int → α) (k : Nat) (j : Int) (v : α) : px_up f k j v k j = v := by simp [px_up]
theorem px_up_ne {α : Type} (f : Nat → Int → α) {k k' : Nat} {j j' : Int} (v : α) (h : ¬ (k' = k ∧ j' = j)) : px_up f k j v k' j' = f k' j' := by simp [px_up, h]
theorem px_up_row {α : Type} (f : Nat → Int → α) {k k' : Nat} (j : Int) (v : α) (h : k' ≠ k) : px_up f k j v k' = f k' := by funext x; simp [px_up, h]
theorem px_fits_ref {t : FieldType} (h : (∃ n, t = .object n) ∨ ∃ a, t = .array a) (a : Nat) : fits t (.ref a) = true ∧ narrow t (.ref a) = .ref a := by
  rcases h with ⟨n, rfl⟩ | ⟨a, rfl⟩ <;> exact ⟨rfl, rfl⟩
section PX2
variable {p : Program} {l : Launch} {e : Env} {R : Room} {s0 : State} {mi : MethodId} {args : Array Value} {below : List Frame} {meth : Method} {c : Code} {Q : State → Prop}
variable {G : PG} {L : Nat} {xs alw : Nat → Int32} {SF : State → Heap → Prop} {e0 t0 : Nat} {m nL pc : Nat} {pl st : List PV} {s s' : PM} {f' : FR} {H : Heap} {locs : List Loc} {cells slots : Nat} {ls : Array Slot} {rest : List Value}
theorem px_okm_i (hm : px_okm s) (k0 : Nat) (x v : Int) (hv : px_r32 v) : px_okm (s.1, px_up s.2.1 k0 x v, s.2.2.1, s.2.2.2.1, s.2.2.2.2) := by
  intro q j
  refine ⟨?_, (hm q j).2⟩
  show px_r32 (px_up _ _ _ _ q j)
  unfold px_up
  split
  · exact hv
  · exact (hm q j).1
theorem px_okm_l (hm : px_okm s) (k0 : Nat) (x v : Int) (hv : px_r64 v) : px_okm (s.1, s.2.1, px_up s.2.2.1 k0 x v, s.2.2.2.1, s.2.2.2.2) := by
  intro q j
  refine ⟨(hm q j).1, ?_⟩
  show px_r64 (px_up _ _ _ _ q j)
  unfold px_up
  split
  · exact hv
  · exact (hm q j).2
/-- what a field's entry in the table means -/
theorem px_lk_f {o i' c' j ci ty fin : Nat} {i l0 : Nat} {v : Int} (hlk : (match px_flk[l0]? with | some (o, i', c', j) => o == px_mo m && i' == i && c' == ci && Int.ofNat j == v && ty == px_ty ci j && fin == px_fin ci j | none => false) = true) :
    ∃ j : Nat, v = (j : Int) ∧ ci < 13 ∧ j < px_nf ci ∧ ty = px_ty ci j ∧ fin = px_fin ci j ∧ Cond.fieldLink (px_own (px_mo m)) i (px_own ci) (px_Fo ci j).2.1 (px_Fo ci j).2.2.1 ∈ px_gt := by
  cases hq : px_flk[l0]? with
  | none => rw [hq] at hlk; cases hlk
  | some q =>
    obtain ⟨o, i', c', j⟩ := q
    rw [hq] at hlk
    simp only [Bool.and_eq_true, beq_iff_eq] at hlk
    obtain ⟨⟨⟨⟨⟨rfl, rfl⟩, rfl⟩, h4⟩, h5⟩, h6⟩ := hlk
    obtain ⟨g1, g2, g3⟩ := px_flk_ok hq
    exact ⟨j, h4.symm, g2, g3, h5, h6, g1⟩
theorem px_o_get (hC : px_CX p s0 mi args meth c m G L xs alw SF) {i ci ty : Nat} {j : Nat} (hd : decode (px_by m) pc = .ok (.getfield i, 3)) (hci : ci < 13) (hj : j < px_nf ci) (hty : ty = px_ty ci j) (hw : Cond.fieldLink (px_own (px_mo m)) i (px_own ci) (px_Fo ci j).2.1 (px_Fo ci j).2.2.1 ∈ px_gt)
    (h : px_get ci ty (j : Int) pc pl st s = some (.inl (f', s'))) (k : px_AT p l e R s0 mi args below meth c Q G L xs alw nL e0 t0 f' s') : px_AT p l e R s0 mi args below meth c Q G L xs alw nL e0 t0 (pc, pl, st) s := by
  obtain ⟨hx, hb, hml, hown, hts, hin, hE⟩ := hC
  unfold px_get at h
  split at h
  · rename_i k0 r
    split at h
    · rename_i hk
      obtain ⟨hk, hk3⟩ := hk
      intro H locs ls hLR hok hrel hS
      obtain ⟨-, hok⟩ := px_okl_cons.mp hok
      have hsame : ∀ x, s0.fieldFound? (px_Fo ci j).1 (px_Fo ci j).2.1 (px_Fo ci j).2.2.1 = some x → s0.fieldFound? (px_own ci) (px_Fo ci j).2.1 (px_Fo ci j).2.2.1 = some x := by
        rw [((px_cok_of hci).2.1 j hj).2.2.1]
        exact fun _ h => h
      have hv : ((List.range (px_nf ci)).map (px_fv G s k0 ci))[j]? = some (px_fv G s k0 ci j) := by rw [List.getElem?_map, List.getElem?_range hj]; rfl
      refine va_get hx hb hts (px_uws hci) hown hE.1 hrel.1 (k0 - 3) (px_at_obj hk3 hk) (px_cls_ok hci) j hj (hts _ hw) hsame hv hd ?_
      obtain ⟨hm1, hm2⟩ := hrel.2.2.2.1 k0 j
      subst hty
      rcases ((px_cok_of hci).2.1 j hj).2.2.2.1 with ⟨h1, -⟩ | ⟨h1, -⟩ | ⟨h1, -⟩ | ⟨h1, -⟩
      · rw [h1] at h
        cases h
        rw [show px_fv G s k0 ci j = px_tr G (vI (s.2.1 k0 j)) by unfold px_fv; rw [h1]; rfl]
        exact k H locs ls hLR (px_okl_cons.mpr ⟨hm1, hok⟩) hrel hS
      · rw [h1] at h
        cases h
        rw [show px_fv G s k0 ci j = px_tr G (vI (s.2.1 k0 j)) by unfold px_fv; rw [h1]; rfl]
        exact k H locs ls hLR (px_okl_cons.mpr ⟨hm1, hok⟩) hrel hS
      · rw [h1] at h
        cases h
        rw [show px_fv G s k0 ci j = px_tr G (vL (s.2.2.1 k0 j)) by unfold px_fv; rw [h1]; rfl]
        exact k H locs ls hLR (px_okl_cons.mpr ⟨hm2, hok⟩) hrel hS
      · rw [h1] at h
        cases h
        rw [show px_fv G s k0 ci j = px_tr G (.inr (.inr (.inl (s.2.2.2.1 k0 j)))) by unfold px_fv; rw [h1]; rfl]
        exact k H locs ls hLR (px_okl_cons.mpr ⟨trivial, hok⟩) hrel hS
    · cases h
  · cases h
/-- a field is written: the heap behind -/
theorem px_W_put (hC : px_CX p s0 mi args meth c m G L xs alw SF) {i ci j a : Nat} (hd : decode (px_by m) pc = .ok (.putfield i, 3)) (hci : ci < 13) (hj : j < px_nf ci) (hfin : px_fin ci j = 0 ∨ px_kd m = 2 ∧ px_mo m = ci) (hw : Cond.fieldLink (px_own (px_mo m)) i (px_own ci) (px_Fo ci j).2.1 (px_Fo ci j).2.2.1 ∈ px_gt)
    {fs : List Value} {v : Value} (hlen : fs.length = px_nf ci) (hat : va_at G.1 px_cls (a, .inr (ci, fs)) H) (hS : va_S (px_A G) s0.heap H locs) (haA : px_A G a) (hn : narrow (px_fty ci j) v = v) (hfit : fits (px_fty ci j) v = true)
    (kk : ∀ (H1 : Heap) (locs1 : List Loc), va_at G.1 px_cls (a, .inr (ci, fs.set j v)) H1 → H1.size = H.size → (∀ q : Nat, q ≠ a → H1[q]? = H[q]?) → va_S (px_A G) s0.heap H1 locs1 → W p l e R s0 mi args below meth c H1 locs1 cells slots Q (F0 mi (pc + 3) ls rest)) : W p l e R s0 mi args below meth c H locs cells slots Q (F0 mi pc ls (v :: .ref a :: rest)) := by
  obtain ⟨hx, hb, hml, hown, hts, hin, hE⟩ := hC
  have hc := px_cls_ok hci
  obtain ⟨-, hcf0, hnm⟩ := px_cok_of hci
  have hap := va_apart (own := px_own (px_mo m)) hts (px_uws hci) (px_fty ci) (fun k hk => (hcf0 k hk).2.1) hnm hE.1 hc
  obtain ⟨r, h1, cell, q1, q2, q3, q4⟩ := hat
  have hr : r = (px_own ci, px_Fo ci, px_nf ci) := Option.some.inj (h1.symm.trans hc)
  subst hr
  obtain ⟨hSl, hfc, kC, hkC, hkind⟩ := hE.1.1 ci _ hc
  obtain ⟨cf, kf, fi, f, hi, hsl⟩ := hSl j hj
  obtain ⟨hlayw, hdsc, hdecl, -, hfl, hf01⟩ := hcf0 j hj
  have hsame : s0.fieldFound? (px_own ci) (px_Fo ci j).2.1 (px_Fo ci j).2.2.1 = some (cf, kf, fi, f) := by rw [← hdecl]; exact hi
  have hlay := hts _ hlayw
  unfold u_lay at hlay
  have hst := (u_facts hfc hkC (u_lays hts (px_uws hci) hj) hi).1
  have fin : ∀ (H' : Heap) (locs' : List Loc), H'[a]? = some (cell.setSlot (G.1.2 ci j) v) → H'.size = H.size → (∀ q : Nat, q ≠ a → H'[q]? = H[q]?) → locs' = locs ++ [⟨a, G.1.2 ci j⟩] → W p l e R s0 mi args below meth c H' locs' cells slots Q (F0 mi (pc + 3) ls rest) := by
    intro H' locs' e1 e2 e3 e4
    subst e4
    exact kk H' _ ⟨_, hc, t_OB.to (V := updV (vp_V fs) j v) ⟨_, e1, q2, q3, t_set q4 hap hj v⟩ (fun k _ => vp_updV_set (by rw [hlen]; exact hj) v k)⟩ e2 e3 (hS.put e2 e3 haA)
  rcases hf01 with hf | hf
  · have hff : (px_Fo ci j).2.2.2 = false := by rw [hfl, hf]; rfl
    rw [if_neg (by rw [hff]; decide)] at hlay
    have h6 := u_store hfc hkC hkind hlay hi hdsc hn hfit
    refine W.putK hx hb (f := f) ⟨hown, hts _ hw, ⟨_, _, _, hsame⟩, hst⟩ (by rw [q2]; exact h6) q1 q3 (by rw [hsl]; exact k2_hasslot (q4 j hj)) rfl rfl hd fun H' e1 e2 e3 => ?_
    rw [hsl] at e1 ⊢
    exact fin H' _ e1 e2 e3 rfl
  · have hff : (px_Fo ci j).2.2.2 = true := by rw [hfl, hf]; rfl
    rw [if_pos hff] at hlay
    rcases hfin with h0 | ⟨h0, h00⟩
    · omega
    have hcf : mi.cls = cf := by
      obtain ⟨_, _, c', _, _, _, -, -, hf', -, -, -, hown2, -⟩ := Cond.laysFinal_spec hlay
      have e1 : c' = cf := by have := hi.symm.trans hf'; simp at this; exact this.1.symm
      rw [hdecl] at hown2
      rw [h00] at hown
      rw [← e1]; exact Option.some.inj (hown.symm.trans hown2)
    have h6 := u_fits hfc hkC hkind (Or.inr hlay) hi hdsc hn hfit
    refine W.putFinK hx hb hown (hts _ hw) hsame hst hcf (hin h0) (by rw [q2]; exact h6) q1 q3 (by rw [hsl]; exact k2_hasslot (q4 j hj)) rfl rfl hd fun H' e1 e2 e3 => ?_
    rw [hsl] at e1 ⊢
    exact fin H' _ e1 e2 e3 rfl
theorem px_o_put (hC : px_CX p s0 mi args meth c m G L xs alw SF) {i ci ty : Nat} {j : Nat} (hd : decode (px_by m) pc = .ok (.putfield i, 3)) (hci : ci < 13) (hj : j < px_nf ci) (hty : ty = px_ty ci j) (hfin : px_fin ci j = 0 ∨ px_kd m = 2 ∧ px_mo m = ci) (hw : Cond.fieldLink (px_own (px_mo m)) i (px_own ci) (px_Fo ci j).2.1 (px_Fo ci j).2.2.1 ∈ px_gt)
    (h : px_put ci ty (j : Int) pc pl st s = some (.inl (f', s'))) (k : px_AT p l e R s0 mi args below meth c Q G L xs alw nL e0 t0 f' s') : px_AT p l e R s0 mi args below meth c Q G L xs alw nL e0 t0 (pc, pl, st) s := by
  unfold px_put at h
  split at h
  · rename_i v k0 r
    split at h
    · rename_i hk
      obtain ⟨hk, hk3⟩ := hk
      intro H locs ls hLR hok hrel hS
      obtain ⟨hokv, hok⟩ := px_okl_cons.mp hok
      obtain ⟨-, hok⟩ := px_okl_cons.mp hok
      have hat : va_at G.1 px_cls (px_adr G k0, .inr (ci, (List.range (px_nf ci)).map (px_fv G s k0 ci))) H := hrel.1 _ _ (px_at_obj hk3 hk)
      have haA : px_A G (px_adr G k0) := by rw [px_adr_in G hk3]; exact Nat.le_add_right _ _
      have hcelS : ∀ s2 : PM, s2.1 = s.1 → px_cel G s2 k0 = .inr (ci, (List.range (px_nf ci)).map (px_fv G s2 k0 ci)) := fun s2 h2 => by unfold px_cel; rw [h2, hk]
      have fin : ∀ (s2 : PM) (v2 : Value), s2.1 = s.1 → s2.2.2.2.2 = s.2.2.2.2 → (∀ q : Nat, q ≠ k0 → (s2.2.1 q = s.2.1 q ∧ s2.2.2.1 q = s.2.2.1 q ∧ s2.2.2.2.1 q = s.2.2.2.1 q)) → px_okm s2 → px_fv G s2 k0 ci j = v2 → (∀ q, q ≠ j → px_fv G s2 k0 ci q = px_fv G s k0 ci q) → narrow (px_fty ci j) v2 = v2 → fits (px_fty ci j) v2 = true →
          px_AT p l e R s0 mi args below meth c Q G L xs alw nL e0 t0 (pc + 3, pl, r) s2 → W p l e R s0 mi args below meth c H locs (s.1.length - e0) (s.2.2.2.2 - t0) Q (F0 mi pc ls (v2 :: .ref (px_adr G k0) :: r.map (px_tr G))) := by
        intro s2 v2 hs1 hs2 hoth hm2 hv2 hne hn hf k2
        refine px_W_put hC hd hci hj hfin hw (by simp) hat hS haA hn hf (fun H1 locs1 e1 e2 e3 hS1 => ?_)
        have hr2 : px_rel G L xs alw s2 H1 := px_rel_set hrel hk3 (px_lt_of hk) hs1 hoth hm2 (by rw [hcelS s2 hs1, ← px_map_set hv2 hne]; exact e1) e2 e3
        have := k2 H1 locs1 ls hLR hok hr2 hS1
        rw [hs1, hs2] at this
        exact this
      subst hty
      have hT := ((px_cok_of hci).2.1 j hj).2.2.2.1
      split at h
      · rename_i x h1
        cases h
        rcases hT with ⟨h2, h3⟩ | ⟨h2, h3⟩ | ⟨h2, h3⟩ | ⟨h2, h3⟩ <;> first | (rw [h2] at h1; cases h1) | skip
        refine fin (s.1, px_up s.2.1 k0 (j : Int) x, s.2.2.1, s.2.2.2.1, s.2.2.2.2) (.int (Int32.ofInt x)) rfl rfl (fun q hq => ⟨px_up_row s.2.1 (j : Int) x hq, rfl, rfl⟩) (px_okm_i hrel.2.2.2.1 k0 (j : Int) x hokv) (by unfold px_fv; rw [h2]; show Value.int (Int32.ofInt (px_up s.2.1 k0 (j : Int) x k0 (j : Int))) = _; rw [px_up_self]) (fun q hq => ?_) (by rw [h3]; rfl) (by rw [h3]; rfl) k
        have hne := px_up_ne (k := k0) (k' := k0) (j := (j : Int)) (j' := (q : Int)) s.2.1 x (fun hh => hq (by have := hh.2; omega))
        unfold px_fv
        dsimp only
        rw [hne]
      · rename_i x h1
        split at h
        · rename_i hx01
          cases h
          rcases hT with ⟨h2, h3⟩ | ⟨h2, h3⟩ | ⟨h2, h3⟩ | ⟨h2, h3⟩ <;> first | (rw [h2] at h1; cases h1) | skip
          refine fin (s.1, px_up s.2.1 k0 (j : Int) x, s.2.2.1, s.2.2.2.1, s.2.2.2.2) (.int (Int32.ofInt x)) rfl rfl (fun q hq => ⟨px_up_row s.2.1 (j : Int) x hq, rfl, rfl⟩) (px_okm_i hrel.2.2.2.1 k0 (j : Int) x hokv) (by unfold px_fv; rw [h2]; show Value.int (Int32.ofInt (px_up s.2.1 k0 (j : Int) x k0 (j : Int))) = _; rw [px_up_self]) (fun q hq => ?_) (by rw [h3]; rcases hx01 with rfl | rfl <;> rfl) (by rw [h3]; rcases hx01 with rfl | rfl <;> rfl) k
          have hne := px_up_ne (k := k0) (k' := k0) (j := (j : Int)) (j' := (q : Int)) s.2.1 x (fun hh => hq (by have := hh.2; omega))
          unfold px_fv
          dsimp only
          rw [hne]
        · cases h
      · rename_i x h1
        cases h
        rcases hT with ⟨h2, h3⟩ | ⟨h2, h3⟩ | ⟨h2, h3⟩ | ⟨h2, h3⟩ <;> first | (rw [h2] at h1; cases h1) | skip
        refine fin (s.1, s.2.1, px_up s.2.2.1 k0 (j : Int) x, s.2.2.2.1, s.2.2.2.2) (.long (Int64.ofInt x)) rfl rfl (fun q hq => ⟨rfl, px_up_row s.2.2.1 (j : Int) x hq, rfl⟩) (px_okm_l hrel.2.2.2.1 k0 (j : Int) x hokv) (by unfold px_fv; rw [h2]; show Value.long (Int64.ofInt (px_up s.2.2.1 k0 (j : Int) x k0 (j : Int))) = _; rw [px_up_self]) (fun q hq => ?_) (by rw [h3]; rfl) (by rw [h3]; rfl) k
        have hne := px_up_ne (k := k0) (k' := k0) (j := (j : Int)) (j' := (q : Int)) s.2.2.1 x (fun hh => hq (by have := hh.2; omega))
        unfold px_fv
        dsimp only
        rw [hne]
      · rename_i x h1
        cases h
        rcases hT with ⟨h2, h3⟩ | ⟨h2, h3⟩ | ⟨h2, h3⟩ | ⟨h2, h3⟩ <;> first | (rw [h2] at h1; cases h1) | skip
        refine fin (s.1, s.2.1, s.2.2.1, px_up s.2.2.2.1 k0 (j : Int) (some x), s.2.2.2.2) (.ref (px_adr G x)) rfl rfl (fun q hq => ⟨rfl, rfl, px_up_row s.2.2.2.1 (j : Int) (some x) hq⟩) hrel.2.2.2.1 (by unfold px_fv; rw [h2]; show va_rf (Option.map (px_adr G) (px_up s.2.2.2.1 k0 (j : Int) (some x) k0 (j : Int))) = _; rw [px_up_self]; rfl) (fun q hq => ?_) (px_fits_ref h3 _).2 (px_fits_ref h3 _).1 k
        have hne := px_up_ne (k := k0) (k' := k0) (j := (j : Int)) (j' := (q : Int)) s.2.2.2.1 (some x) (fun hh => hq (by have := hh.2; omega))
        unfold px_fv
        dsimp only
        rw [hne]
      · cases h
    · cases h
  · cases h
end PX2
