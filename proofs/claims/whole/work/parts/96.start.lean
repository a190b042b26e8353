/-! From the pure machine to the claim's own start. -/
/-- the tables' words -/
def px_alw (j : Nat) : Int32 := Int32.ofInt (([7, 1017, 14408, 16384, 1017, 1065] : List Int).getD j 0)
def px_byt : List Int32 := px_words.map (fun n => Int32.ofNat n)
/-- what the law finds: the script, ALLOWED, WORDS -/
def px_i0 (xs : Nat → Int32) : MI := fun k j => if k = 0 then (if 0 ≤ j then (xs j.toNat).toInt else 0) else if k = 1 then (if 0 ≤ j then (px_alw j.toNat).toInt else 0) else 0
def px_sS (L : Nat) (xs : Nat → Int32) : PM := ([.inr (0, L), .inr (0, 6), .inl 99], px_i0 xs, fun _ _ => 0, fun _ _ => none, 0)
/-- WHAT IS LEFT: the pure machine, at the law's method, answers 1 -/
def px_GOAL : Prop := ∀ (L : Nat) (xs : Nat → Int32), L ≤ 4098 → ∃ (n d : Nat) (s' : PM), d ≤ 800 ∧ px_run n d 243 (px_ent 243 [vR 0]) (px_sS L xs) = some (some (vI 1), s') ∧ s'.1.length ≤ 600000 ∧ s'.2.2.2.2 ≤ 7302250
def px_SF (aS aV : Nat) (ba : Nat) (U : State) (H : Heap) : Prop := vk_S 1 [124] [px_byt] (fun _ => aS) (fun _ => aV) (fun q => ba ≤ q) U H ∧ va_Z "java/lang/String" "COMPACT_STRINGS" "Z" (.int 1) (fun q => ba ≤ q) U H ∧ va_Zq "jdk/internal/util/Preconditions" "SIOOBE_FORMATTER" "Ljava/util/function/BiFunction;" (fun q => ba ≤ q) U H
theorem px_SF_ok (G : PG) (aV : Nat) : px_SFok G (px_SF G.2.2.2.2.1 aV (px_ba G)) := by
  refine ⟨fun U H H1 h hq => ⟨h.1.kept hq, h.2.1.kept hq, h.2.2.kept hq⟩, fun u U H hW h => ⟨h.1.moved hW.alike, h.2.1.moved hW.alike, h.2.2.moved hW.alike⟩, fun U H h => ?_⟩
  obtain ⟨cell, h1, h2, h3, -⟩ := (h.1.1 0 (by decide)).1
  exact ⟨cell, h1, h2, h3⟩
set_option maxHeartbeats 4000000 in
set_option maxRecDepth 100000 in
/-- what the Statement gives at the law's start -/
theorem px_ENV_start {args : Array Value} {s : State} (hts : ∀ w ∈ lw_tbl, w.before args s = true) (hgv : (Jvm.Cond.and given_1 narrow_1).before args s = true) {b L : Nat} {xs : Nat → Int32} (hX : va_X b L xs s s.heap) (hbl : b < s.heap.size) :
    ∃ (D : va_G) (cA : Nat → ClassId) (aA aS aV : Nat), px_ENV (D, cA, b, aA, aS, s.heap.size) L xs px_alw (px_SF aS aV s.heap.size) s s.heap := by
  have hs := flat_of_before _ hgv
  have hA : ∀ a : Nat, a < s.heap.size → ¬ (fun q => s.heap.size ≤ q) a := fun a h => Nat.not_le.mpr h
  have hgt : ∀ w ∈ px_gt, w.before args s = true := fun w hw => hts w (px_gt_tbl hw)
  -- classes
  have hcl : ∀ ci : Nat, ∃ (cC : ClassId) (iS : Nat → Nat), ci < 13 → u_Kn s (px_own ci) (px_Fo ci) (px_nf ci) cC iS := by
    intro ci
    by_cases h : ci < 13
    · obtain ⟨⟨w1, w2⟩, -, -⟩ := px_cok_of h
      obtain ⟨cC, iS, hk⟩ := u_known (n := px_nf ci) (fun w hw => hgt w hw) (px_uws h) (hgt _ w1)
      exact ⟨cC, iS, fun _ => hk⟩
    · exact ⟨0, fun _ => 0, fun h2 => absurd h2 h⟩
  -- arrays of numbers
  have hpr : ∀ ty : FieldType, Cond.arrayClass ty ∈ px_gt → ∃ cA, ArrOfT s cA ty ∧ s.vm.findClass ("[" ++ ty.toString) = some cA := by
    intro ty hw
    obtain ⟨cA, kA, comp, hfind, hk, hkind⟩ := Cond.arrayClass_spec (hgt _ hw)
    exact ⟨cA, fun n z => ⟨fun k h => (by cases h), kA, hk, comp, hkind⟩, hfind⟩
  obtain ⟨c0, hc0, hf0⟩ := hpr _ px_aw0
  obtain ⟨c1, hc1, hf1⟩ := hpr _ px_aw1
  obtain ⟨c2, hc2, hf2⟩ := hpr _ px_aw2
  obtain ⟨c3, hc3, hf3⟩ := hpr _ px_aw3
  -- arrays of references
  have hrf : ∀ C : String, (Cond.arrayOver (.object C)).before args s = true → ∃ cA, ArrOfT s cA (.object C) ∧ va_RA s cA (.object C) ∧ s.vm.findClass ("[" ++ (FieldType.object C).toString) = some cA := by
    intro C hw
    obtain ⟨comp, cA, kA, h1, h2, h3, h4, h5⟩ := Cond.arrayOver_spec hw
    exact ⟨cA, fun n z => ⟨fun k h => (by cases h), kA, h3, comp, h4⟩, ⟨kA, comp, h3, h4, h1, h5⟩, h5⟩
  have hoG : (Cond.arrayOver (.object "TideGuests$Guest")).before args s = true := hts _ (by decide +kernel)
  have hoT : (Cond.arrayOver (.object "TideGuests$Text")).before args s = true := hts _ (by decide +kernel)
  obtain ⟨c7, hc7, hr7, hf7⟩ := hrf _ hoG
  obtain ⟨c15, hc15, hr15, hf15⟩ := hrf _ hoT
  -- ALLOWED
  obtain ⟨aA, haA, hT⟩ := va_Tof (args := args) (s := s) (tm := .static "TideGuests$Reader" "ALLOWED" "[I") (ty := .int) (N := 6) (f := fun j => .int (px_alw j)) (A := fun q => s.heap.size ≤ q) (by decide) (hs _ (by decide +kernel)) (va_eqt (hs _ (by decide +kernel))) (fun j hj => by
    have hm : ∀ j, j < 6 → Cond.eq (.elem (.static "TideGuests$Reader" "ALLOWED" "[I") (.int (Int32.ofNat j))) (.int (px_alw j)) ∈ flatC (Jvm.Cond.and given_1 narrow_1) := by decide +kernel
    exact va_eqt (hs _ (hm j hj))) hA
  have hini : (Cond.initialized "TideGuests$Reader").before args s = true := hts _ (by decide +kernel)
  have hZ : va_Z "TideGuests$Reader" "ALLOWED" "[I" (.ref aA) (fun q => s.heap.size ≤ q) s s.heap := va_Zref (hts _ (by decide +kernel)) hini haA hA
  have haAl : aA < s.heap.size := by
    obtain ⟨cell, h1, -⟩ := hT
    exact (Array.getElem?_eq_some_iff.mp h1).1
  -- WORDS
  obtain ⟨adK, adV, hV, hev⟩ := vk_Sof (args := args) (s := s) (N := 1) (tm := fun _ => .string "TideGuests$Reader" 99) (len := [124]) (byt := [px_byt]) (A := fun q => s.heap.size ≤ q) (fun i hi => by
      have : i = 0 := by omega
      subst this
      decide) (fun i _ => hs _ (by decide +kernel)) (fun i _ => hs _ (by decide +kernel)) (fun i _ => hs _ (by decide +kernel)) (fun i hi => by
      have : i = 0 := by omega
      subst this
      exact hs _ (by decide +kernel)) (fun i hi j hj => by
      have : i = 0 := by omega
      subst this
      have hm : ∀ j, j < 124 → Cond.eq (.elem (.field (.string "TideGuests$Reader" 99) "java/lang/String" "value" "[B") (.int (Int32.ofNat j))) (.int (px_byt.getD j 0)) ∈ flatC (Jvm.Cond.and given_1 narrow_1) := by decide +kernel
      exact hs _ (hm j hj)) (fun i j hi hj hne => by omega) hA
  have hsr : (Cond.stringRef "TideGuests$Reader" 99 px_txt).before args s = true := hts _ (by decide +kernel)
  have hE0 : (Term.string "TideGuests$Reader" 99).eval args s none [] s = some (.ref (adK 0)) := hev 0 (by decide)
  refine ⟨(fun ci => Classical.choose (hcl ci), fun ci => Classical.choose (Classical.choose_spec (hcl ci))), fun t => if t = 0 then c0 else if t = 1 then c1 else if t = 2 then c2 else if t = 3 then c3 else if t = 7 then c7 else c15, aA, adK 0, adV 0, ?_⟩
  refine ⟨⟨fun c q hq => ?_, fun k q hq => ?_⟩, fun q hq hn => ?_, ⟨va_AO.of hoG, va_AO.of hoT⟩, hX, hT, hZ, vk_R.of hsr hE0, ⟨?_, ?_, ?_⟩, ⟨hbl, haAl, Nat.le_refl _⟩, ?_⟩
  · have hc : c < 13 := (List.getElem?_eq_some_iff.mp hq).1
    have hq2 := hq.symm.trans (px_cls_ok hc)
    cases hq2
    exact Classical.choose_spec (Classical.choose_spec (hcl c)) hc
  · have hk : k < 6 := (List.getElem?_eq_some_iff.mp hq).1
    rcases (by omega : k = 0 ∨ k = 1 ∨ k = 2 ∨ k = 3 ∨ k = 4 ∨ k = 5) with rfl | rfl | rfl | rfl | rfl | rfl
    · cases hq; exact ⟨hc0, hf0⟩
    · cases hq; exact ⟨hc1, hf1⟩
    · cases hq; exact ⟨hc2, hf2⟩
    · cases hq; exact ⟨hc3, hf3⟩
    · cases hq; exact ⟨hc7, hr7⟩
    · cases hq; exact ⟨hc15, hr15⟩
  · obtain ⟨l0, hl⟩ := List.getElem?_of_mem hq
    have hl2 : l0 < px_mlk.length := (List.getElem?_eq_some_iff.mp hl).1
    have hl3 : l0 < px_mlp2.length := by rw [← px_mlz]; exact hl2
    have hz : (px_mlk.zip px_mlp2)[l0]? = some (q, px_mlp2[l0]) := by
      rw [List.getElem?_zip_eq_some]
      exact ⟨hl, List.getElem?_eq_getElem hl3⟩
    have h1 := List.all_eq_true.mp px_mlc _ (List.mem_of_getElem? hz)
    dsimp only at h1
    rw [show (q.2.2.2 == 0) = false from beq_eq_false_iff_ne.mpr hn] at h1
    exact va_Nw.of rfl (hts _ (List.mem_of_getElem? (of_decide_eq_true h1)))
  · refine ⟨fun i hi => ?_, fun i j hi hj _ => by omega⟩
    have : i = 0 := by omega
    subst this
    exact hV.1 0 hi
  · exact va_Zof (hts _ (by decide +kernel)) (hts _ (by decide +kernel)) (va_eqi (hs _ (by decide +kernel))) hA
  · exact va_Zqof (hts _ (by decide +kernel)) (hts _ (by decide +kernel)) (hs _ (by decide +kernel)) hA
  · exact ⟨fun cA h => Option.some.inj (h.symm.trans hf0), fun cA h => Option.some.inj (h.symm.trans hf1), fun cA h => Option.some.inj (h.symm.trans hf2), fun cA h => Option.some.inj (h.symm.trans hf3), fun cA h => Option.some.inj (h.symm.trans hf7), fun cA h => Option.some.inj (h.symm.trans hf15)⟩
theorem px_alw_tz (j : Nat) (hj : j < 6) : (px_alw j).toInt = tz_alw (j : Int) := by
  rcases (by omega : j = 0 ∨ j = 1 ∨ j = 2 ∨ j = 3 ∨ j = 4 ∨ j = 5) with q | q | q | q | q | q <;> subst q <;> decide +kernel
theorem px_goal : px_GOAL := by
  intro L xs hL
  obtain ⟨i1, r1, c1, p1⟩ := z_start (L := L) 38 (px_i0 xs) (fun _ _ => 0) (fun _ _ => none) 0 z_hr
  have hCR : tz_CR 0 i1 (zLm (z_at L (px_i0 xs) 0) (z_at L (px_i0 xs) 1) (fun _ _ => 0)) := z_CR (fun x x0 x1 => by
    obtain ⟨j, rfl⟩ : ∃ j : Nat, x = (j : Int) := ⟨x.toNat, by omega⟩
    have e : px_i0 xs 1 (j : Int) = (px_alw j).toInt := by
      unfold px_i0
      rw [if_neg (by decide), if_pos rfl, if_pos (by omega), Int.toNat_natCast]
    rw [e]
    exact px_alw_tz j (by omega)) c1 p1
  have hs : ∀ x, px_r32 (i1 0 x) := fun x => by
    have e : i1 0 x = px_i0 xs 0 x := by
      rw [c1 0 (by decide)]
      exact zr_0 _ _ _ x
    rw [e]
    unfold px_i0
    rw [if_pos rfl]
    split
    · exact px_ir32 _
    · exact px_0r
  obtain ⟨i2, l2, r2⟩ := lw_loop (L := L) (t := zTm 0) (CR := tz_CR) z_hr 0 hL (fun n i l h => ⟨ty_CR_mono h.1, h.2⟩)
    (fun a1 _ a2 _ b hb => tz_lift (ok_cell a1 a2 b hb)) (fun a1 _ => tz_lift (ok_inn a1)) (fun a1 _ a2 _ => tz_lift (ok_sky a1 a2)) (fun a1 _ a2 _ => tz_lift (ok_perch a1 a2))
    (fun a1 _ a2 _ b hb a4 _ a5 _ a6 _ a7 _ => tz_lift (ok_guest a1 a2 b hb a4 a5 a6 a7)) (fun a1 _ a2 _ b hb => tz_lift (ok_here a1 a2 b hb)) (fun a1 h1 a2 h2 a3 h3 a4 h4 a5 h5 => tz_lift (ok_feed a1 h1 a2 h2 a3 h3 a4 h4 a5 h5)) (fun a1 _ => tz_lift (ok_end a1)) ok_text (fun a1 _ => tz_lift (ok_fault a1)) (fun a1 _ => tz_lift (ok_by a1)) (fun a1 _ => tz_lift (ok_level a1))
    (fun a1 _ a2 _ => tz_lift (ok_seat a1 a2)) (fun a1 _ a2 _ a3 _ => tz_lift (ok_night a1 a2 a3)) (fun a1 _ a2 _ => tz_lift (ok_told a1 a2)) (fun a1 _ a2 _ => tz_lift (ok_sat a1 a2)) (fun a1 _ a2 _ a3 _ => tz_lift (ok_way a1 a2 a3)) (fun a1 _ => tz_lift (ok_last a1)) (fun a1 _ a2 _ a3 _ a4 _ => tz_lift (ok_pilot a1 a2 a3 a4)) (fun a1 _ a2 _ => tz_lift (ok_given a1 a2)) (fun a1 _ a2 _ => tz_lift (ok_hatch a1 a2)) (fun a1 _ => tz_lift (ok_horse a1)) (tz_lift ok_rafts) (fun a1 _ a2 _ a3 _ => tz_lift (ok_line a1 a2 a3)) (fun a1 _ => tz_lift (ok_there a1)) (fun a1 _ a2 _ => tz_lift (ok_shift a1 a2)) (tz_lift ok_image) (tz_lift ok_back) (fun a1 h1 => tz_lift (ok_about a1 h1))
    513 0 i1 (zLm (z_at L (px_i0 xs) 0) (z_at L (px_i0 xs) 1) (fun _ _ => 0)) 2 hCR hs (by decide) (by decide) (by omega)
  have r3 : px_X 41 243 (0, [vR 0, vJ, vJ, vJ], []) (px_T L 3, px_i0 xs, (fun _ _ => 0), (fun _ _ => none), 0) = some (some (vI 1), (px_sh L, i2, l2, zRm (fun _ _ => none), zTm 0)) := r1.trans r2
  obtain ⟨n, hn⟩ := px_X_iff.mp r3
  refine ⟨n, 41, (px_sh L, i2, l2, zRm (fun _ _ => none), zTm 0), by decide, hn, ?_, z_T⟩
  show (px_sh L).length ≤ 600000
  rw [px_Tlen]
  decide
